/** Promises 11 and 14 to 18: room for tickets, what they tell before and behind each step, and empty wires. */
final class RequestBoundsTest {
    private static final Check CHECK = new Check();
    private static final int ONE = Check.how(1, 0, Check.GROWING);

    public static void main(String[] args) {
        noTickets();
        sixtyFourTickets();
        for (int sort : new int[] {0, Check.WRITE}) {
            for (int master = 0; master < 4; master++) {
                eightUnsent(sort, master);
            }
            onlyUnsentCount(sort);
            greatestHow(sort);
            for (int length : new int[] {1, 2, 15, 16}) {
                beatsOneByOne(sort, length);
            }
            stages(sort);
        }
        answersOfOneId();
        answersOfOtherIds();
        forgetBeginsAgain();
        greatestResponse();
        responseOfExclusiveBeats();
        responsesOfWrites();
        targetByThePagesAsTheyAre();
        noWiresBeforeATick();
        noRestWithoutValid();
        portsBeforeATick();
        CHECK.end();
    }

    private static void noTickets() {
        Bus bus = new Bus(1, 1, 1);
        CHECK.due("no tickets", bus.told(1), 0);
        CHECK.noIndex("ticket 0", () -> bus.ticket(0, 0));
        CHECK.noIndex("data of ticket 0", () -> bus.data(0, 0));
        CHECK.due("none to forget", bus.forget(), 0);
        CHECK.due("none to forget again", bus.forget(), 0);
        CHECK.due("the first number", bus.request(0, ONE, 0, 0, 0), 0);
        CHECK.due("ticket 0 then", bus.ticket(0, 0), 0);
        CHECK.noIndex("ticket 1", () -> bus.ticket(1, 0));
    }

    private static void sixtyFourTickets() {
        Bus bus = new Bus(4, 1, 8);
        for (int i = 0; i < 64; i++) {
            CHECK.due("number", bus.request(i % 4, (i / 4 % 2) * Check.WRITE + ONE, i, 0, i), i);
        }
        CHECK.due("64 tickets", bus.told(1), 64);
        CHECK.due("the last one", bus.ticket(63, 0), 0);
        CHECK.noIndex("ticket 64", () -> bus.ticket(64, 0));
        CHECK.noRoom("a 65th", () -> bus.request(0, ONE, 0, 0, 0));
        bus.drain(1000);
        CHECK.noRoom("a 65th when all are done", () -> bus.request(0, ONE, 0, 0, 0));
        CHECK.due("still 64", bus.told(1), 64);
        CHECK.due("all done", bus.told(2), 0);
        CHECK.due("forgotten", bus.forget(), 64);
        CHECK.noIndex("ticket 63", () -> bus.ticket(63, 0));
        CHECK.due("room again", bus.request(3, ONE, 0, 0, 0), 0);
    }

    private static void eightUnsent(int sort, int master) {
        Bus bus = new Bus(4, 1, 8);
        int channel = sort == 0 ? Check.AR : Check.AW;
        bus.master(master, channel, 1);
        bus.tick(1);
        for (int i = 0; i < 8; i++) {
            CHECK.due("unsent " + i, bus.request(master, sort + ONE, 0, i, 0), i);
        }
        CHECK.noRoom("a ninth", () -> bus.request(master, sort + ONE, 0, 0, 0));
        CHECK.due("one of the other sort", bus.request(master, Check.WRITE - sort + ONE, 0, 0, 0), 8);
        CHECK.due("one of another master", bus.request((master + 1) % 4, sort + ONE, 0, 0, 0), 9);
        bus.tick(15);
        CHECK.noRoom("a ninth, in the tick before", () -> bus.request(master, sort + ONE, 0, 0, 0));
        bus.tick(1);
        CHECK.due("one address was transferred", bus.ticket(0, 0), 1);
        CHECK.due("room for one", bus.request(master, sort + ONE, 0, 0, 0), 10);
        CHECK.noRoom("and for no more", () -> bus.request(master, sort + ONE, 0, 0, 0));
        bus.master(master, channel, 65535);
        CHECK.due("all are done", bus.drain(1000) > 0, true);
    }

    /** Requests whose address was transferred take no room, though none of them is done. */
    private static void onlyUnsentCount(int sort) {
        Bus bus = new Bus(1, 1, 8);
        bus.slave(0, sort == 0 ? Check.R : Check.B, 0);
        for (int i = 0; i < 8; i++) {
            bus.request(0, sort + ONE, 0, 0, 0);
        }
        bus.tick(50);
        CHECK.due("all eight went", bus.ticket(7, 0), 1);
        for (int i = 8; i < 16; i++) {
            CHECK.due("eight more", bus.request(0, sort + ONE, 0, 0, 0), i);
        }
        CHECK.noRoom("one more", () -> bus.request(0, sort + ONE, 0, 0, 0));
        CHECK.due("none is done", bus.told(2), 16);
    }

    private static void greatestHow(int sort) {
        Bus bus = new Bus(4, 4, 8);
        int how = Check.how(16, 3, Check.WRAPPING) + Check.EXCLUSIVE + Check.SPARSE + 15 * Check.URGENCY;
        CHECK.due("it is all bits but two", how, 32767 - 64 - 256);
        int ticket = bus.request(3, how + sort, 65408, 15, -1);
        CHECK.due("it is done", bus.drain(200) > 0, true);
        CHECK.due("16 beats", bus.ticket(ticket, 5), 16);
        CHECK.badNumber("how 32768", () -> bus.request(3, 32768, 65408, 15, -1));
        CHECK.sound("greatest how", bus);
    }

    /** In each tick just the beats that were transferred have data. */
    private static void beatsOneByOne(int sort, int length) {
        Bus bus = new Bus(1, 1, 8);
        int ticket = bus.request(0, sort + Check.how(length, 0, Check.GROWING), 0, 0, 7);
        int channel = sort == 0 ? Check.R : Check.W;
        while (bus.told(2) > 0) {
            int beats = bus.port(Check.MASTER, 0, channel);
            CHECK.due("beats so far", bus.ticket(ticket, 5), beats);
            CHECK.noIndex("the next beat", () -> bus.data(ticket, beats));
            if (beats > 0) {
                long want = sort == 0 ? 0 : Check.seedAfter(7, beats) & 255L << 8 * ((beats - 1) % 8);
                CHECK.due("the latest beat", bus.data(ticket, beats - 1), want);
            }
            bus.tick(1);
        }
        CHECK.due("beats in the end", bus.ticket(ticket, 5), length);
        bus.data(ticket, length - 1);
        for (int beat : new int[] {-1, length, 16, Integer.MIN_VALUE, Integer.MAX_VALUE}) {
            CHECK.noIndex("beat " + beat + " of " + length, () -> bus.data(ticket, beat));
        }
    }

    /** NONE before, the tick from then on. */
    private static void stages(int sort) {
        Bus bus = new Bus(1, 1, 8);
        bus.master(0, sort == 0 ? Check.AR : Check.AW, 1 << 6);
        bus.tick(3);
        int ticket = bus.request(0, sort + ONE, 0, 0, 0);
        int done = sort == 0 ? 9 : 10;
        for (int time = 3; time < 14; time++) {
            int stage = time <= 6 ? 0 : time <= done ? 1 : 2;
            CHECK.due("stage at " + time, bus.ticket(ticket, 0), stage);
            CHECK.due("requested", bus.ticket(ticket, 2), 3);
            CHECK.due("sent at " + time, bus.ticket(ticket, 3), stage == 0 ? -1 : 6);
            CHECK.due("done at " + time, bus.ticket(ticket, 4), stage == 2 ? done : -1);
            CHECK.due("not done", bus.told(2), stage == 2 ? 0 : 1);
            bus.tick(1);
        }
    }

    /** The ticks in which the tickets were done, in their order, less the first of them. */
    private static String doneTicks(Bus bus, int tickets) {
        StringBuilder ticks = new StringBuilder();
        for (int i = 1; i < tickets; i++) {
            ticks.append(bus.ticket(i, 4) - bus.ticket(0, 4)).append(' ');
        }
        return ticks.toString();
    }

    /** Three that wait at a slave, which would rather answer the last one first. */
    private static Bus answered(int sort, int... ids) {
        Bus bus = new Bus(1, 1, 8);
        bus.way(0, 0, 1);
        bus.slave(0, sort == 0 ? Check.R : Check.B, 0);
        for (int id : ids) {
            bus.request(0, sort + ONE, 0, id, 0);
        }
        bus.tick(20);
        bus.slave(0, sort == 0 ? Check.R : Check.B, 65535);
        bus.drain(50);
        return bus;
    }

    /** An answer is for the first one with its ID that is not done. */
    private static void answersOfOneId() {
        CHECK.due("writes of one ID", doneTicks(answered(Check.WRITE, 5, 5, 5), 3), "1 2 ");
        CHECK.due("reads of one ID", doneTicks(answered(0, 5, 5, 5), 3), "1 2 ");
    }

    private static void answersOfOtherIds() {
        CHECK.due("writes of three IDs", doneTicks(answered(Check.WRITE, 0, 7, 15), 3), "-1 -2 ");
        CHECK.due("reads of three IDs", doneTicks(answered(0, 0, 7, 15), 3), "-1 -2 ");
        CHECK.due("writes of two IDs", doneTicks(answered(Check.WRITE, 5, 6, 5), 3), "-1 1 ");
        CHECK.due("reads of two IDs", doneTicks(answered(0, 5, 6, 5), 3), "-1 1 ");
    }

    private static void forgetBeginsAgain() {
        Bus bus = new Bus(2, 1, 8);
        for (int round = 1; round < 5; round++) {
            for (int i = 0; i < round; i++) {
                CHECK.due("number", bus.request(i % 2, ONE, 0, 0, 0), i);
            }
            CHECK.badState("none is done", () -> bus.forget());
            bus.drain(100);
            CHECK.due("forgotten", bus.forget(), round);
            CHECK.due("none is left", bus.told(1), 0);
            CHECK.noIndex("ticket 0", () -> bus.ticket(0, 0));
        }
    }

    /** A sound beat, a spoilt one and a sound one: 0, then 2, and it stays. */
    private static void greatestResponse() {
        Bus bus = new Bus(1, 1, 8);
        bus.spoil(1, 1, true);
        int ticket = bus.request(0, Check.how(3, 0, Check.GROWING), 0, 0, 0);
        int[] beats = {0, 0, 0, 0, 1, 2, 3};
        int[] responses = {0, 0, 0, 0, 0, 2, 2};
        for (int i = 0; i < beats.length; i++) {
            CHECK.due("beats behind " + i, bus.ticket(ticket, 5), beats[i]);
            CHECK.due("response behind " + i, bus.ticket(ticket, 1), responses[i]);
            bus.tick(1);
        }
    }

    private static void responseOfExclusiveBeats() {
        Bus bus = new Bus(1, 1, 8);
        bus.spoil(2, 1, true);
        int ticket = bus.request(0, Check.how(4, 0, Check.GROWING) + Check.EXCLUSIVE, 0, 0, 0);
        int[] responses = {0, 0, 0, 0, 1, 1, 2, 2};
        for (int i = 0; i < responses.length; i++) {
            CHECK.due("exclusive response behind " + i, bus.ticket(ticket, 1), responses[i]);
            bus.tick(1);
        }
        CHECK.due("no right with a spoilt byte", bus.right(0, 0), -1);
    }

    /** All four, each 0 till its B is transferred. */
    private static void responsesOfWrites() {
        int exclusive = Check.how(1, 3, Check.GROWING) + Check.EXCLUSIVE;
        for (int response = 0; response < 4; response++) {
            Bus bus = new Bus(1, 1, 8);
            bus.map(1, -1);
            bus.spoil(64, 1, true);
            bus.request(0, exclusive, 0, 0, 0);
            bus.drain(50);
            int address = new int[] {8, 0, 64, 4096}[response];
            int ticket = bus.request(0, Check.WRITE + exclusive, address, 0, 0);
            while (bus.ticket(ticket, 4) == -1) {
                CHECK.due("response before its B", bus.ticket(ticket, 1), 0);
                bus.tick(1);
            }
            CHECK.due("response", bus.ticket(ticket, 1), response);
            CHECK.due("in B's REST", bus.wire(Check.MASTER, 0, Check.B, 2), 64 * response);
            CHECK.due("B's CONTENT", bus.content(Check.MASTER, 0, Check.B), 0);
        }
    }

    private static void targetByThePagesAsTheyAre() {
        Bus bus = new Bus(1, 4, 8);
        int ticket = bus.request(0, ONE, 15 * 4096 + 4095, 0, 0);
        bus.drain(50);
        for (int slave : new int[] {0, 1, 2, 3, -1, 3}) {
            bus.map(15, slave);
            CHECK.due("target when the page is " + slave + "'s", bus.ticket(ticket, 6), slave == -1 ? 4 : slave);
        }
        bus.map(14, 0);
        CHECK.due("target when another page goes", bus.ticket(ticket, 6), 3);
    }

    private static void noWiresBeforeATick() {
        Bus bus = new Bus(4, 4, 8);
        for (int m = 0; m < 4; m++) {
            bus.early(m, true);
            bus.request(m, Check.WRITE + ONE, 0, 15, -1);
            bus.request(m, ONE, 0, 15, -1);
        }
        for (int i = 0; i < 40; i++) {
            int side = i / 20;
            int k = i / 5 % 4;
            for (int what = 0; what < 3; what++) {
                CHECK.due("wire before a tick", bus.wire(side, k, i % 5, what), 0);
            }
            CHECK.due("content before a tick", bus.content(side, k, i % 5), 0);
        }
    }

    private static void noRestWithoutValid() {
        Bus bus = new Bus(1, 1, 8);
        bus.poke(0, 255);
        bus.request(0, Check.WRITE + Check.how(2, 3, Check.GROWING), 64, 15, -1);
        bus.request(0, Check.how(2, 0, Check.GROWING), 0, 15, -1);
        for (int i = 0; i < 12; i++) {
            bus.tick(1);
            for (int port = 0; port < 10; port++) {
                int side = port / 5;
                if (bus.wire(side, 0, port % 5, 0) == 0) {
                    CHECK.due("REST without VALID", bus.wire(side, 0, port % 5, 2), 0);
                    CHECK.due("CONTENT without VALID", bus.content(side, 0, port % 5), 0);
                }
            }
        }
        CHECK.due("all is done", bus.told(2), 0);
    }

    private static void portsBeforeATick() {
        Bus bus = new Bus(4, 4, 8);
        for (int k = 0; k < 8; k++) {
            for (int what = 0; what < 8; what++) {
                CHECK.due("port before a tick", bus.port(k / 4, k % 4, what), what < 6 ? 0 : -1);
            }
        }
        for (int target = 0; target <= 4; target++) {
            for (int what = 0; what < 4; what++) {
                CHECK.due("target before a tick", bus.target(target, what), 0);
            }
        }
    }
}
