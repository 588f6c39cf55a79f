/** Promises 11 to 16: requests and their tickets, and bursts' addresses, lanes and data. */
final class RequestTest {
    private static final Check CHECK = new Check();

    public static void main(String[] args) {
        writeTickByTick();
        readTickByTick();
        wrongRequests();
        ruleOfBursts();
        roomForTickets();
        forgottenManyTimes();
        roomForAddresses();
        tickAndDrain();
        ticketsAndForget();
        unalignedGrowing();
        fixed();
        wrapping();
        sparse();
        responseOfReads();
        CHECK.end();
    }

    private static void writeTickByTick() {
        Bus bus = new Bus(1, 1, 4);
        bus.tick(3);
        int t = bus.request(0, Check.how(1, 3, Check.GROWING) + Check.WRITE, 64, 9, 5);
        CHECK.due("ticket", t, 0);
        int[] transfers = {1, 2, 1, 1, 1, 0};
        int[] stages = {1, 1, 1, 1, 2, 2};
        int[] beats = {0, 1, 1, 1, 1, 1};
        CHECK.due("stage before", bus.ticket(t, 0), 0);
        CHECK.due("sent before", bus.ticket(t, 3), -1);
        for (int i = 0; i < transfers.length; i++) {
            CHECK.due("write: transfers " + i, bus.tick(1), transfers[i]);
            CHECK.due("write: stage " + i, bus.ticket(t, 0), stages[i]);
            CHECK.due("write: beats " + i, bus.ticket(t, 5), beats[i]);
            CHECK.due("write: done " + i, bus.ticket(t, 4), i < 4 ? -1 : 7);
        }
        CHECK.due("write: requested", bus.ticket(t, 2), 3);
        CHECK.due("write: sent", bus.ticket(t, 3), 3);
        CHECK.due("write: response", bus.ticket(t, 1), 0);
        CHECK.due("write: data", bus.data(t, 0), Check.seedAfter(5, 1));
        for (int a = 64; a < 72; a++) {
            CHECK.due("written byte", bus.peek(a), Check.laneByte(Check.seedAfter(5, 1), a));
        }
    }

    private static void readTickByTick() {
        Bus bus = new Bus(1, 1, 4);
        bus.poke(10, 200);
        bus.poke(11, 100);
        int t = bus.request(0, Check.how(2, 0, Check.GROWING), 10, 3, 0);
        int[] transfers = {1, 1, 1, 2, 1, 0};
        int[] beats = {0, 0, 0, 1, 2, 2};
        for (int i = 0; i < transfers.length; i++) {
            CHECK.due("read: transfers " + i, bus.tick(1), transfers[i]);
            CHECK.due("read: beats " + i, bus.ticket(t, 5), beats[i]);
            CHECK.due("read: stage " + i, bus.ticket(t, 0), i < 4 ? 1 : 2);
            if (i == 3) {
                CHECK.due("read: first beat", bus.data(t, 0), 200L << 16);
                CHECK.noIndex("read: second beat too early", () -> bus.data(t, 1));
            }
        }
        CHECK.due("read: second beat", bus.data(t, 1), 100L << 24);
        CHECK.noIndex("read: no third beat", () -> bus.data(t, 2));
        CHECK.noIndex("read: no beat -1", () -> bus.data(t, -1));
        CHECK.due("read: done", bus.ticket(t, 4), 4);
    }

    private static void wrongRequests() {
        Bus bus = new Bus(2, 1, 4);
        CHECK.noIndex("master -1", () -> bus.request(-1, 0, 0, 0, 0));
        CHECK.noIndex("master before number", () -> bus.request(2, -1, 0, 16, 0));
        CHECK.noIndex("address -1", () -> bus.request(0, 0, -1, 0, 0));
        CHECK.noIndex("address before number", () -> bus.request(0, 32768, 65536, 0, 0));
        CHECK.badNumber("how -1", () -> bus.request(0, -1, 0, 0, 0));
        CHECK.badNumber("how 32768", () -> bus.request(0, 32768, 0, 0, 0));
        CHECK.badNumber("id -1", () -> bus.request(0, 0, 0, -1, 0));
        CHECK.badNumber("id 16", () -> bus.request(0, 0, 0, 16, 0));
        CHECK.due("no tickets", bus.told(1), 0);
        CHECK.due("id 15, urgency 15", bus.request(1, 30720, 65535, 15, 0), 0);
        CHECK.due("one open", bus.told(2), 1);
    }

    private static void ruleOfBursts() {
        refused("kind 3", Check.how(1, 0, 3), 0);
        refused("wrap of 1", Check.how(1, 0, Check.WRAPPING), 0);
        refused("wrap of 3", Check.how(3, 0, Check.WRAPPING), 0);
        refused("wrap that is not even", Check.how(4, 2, Check.WRAPPING), 2);
        taken("wrap of 16", Check.how(16, 3, Check.WRAPPING), 8);
        refused("over the page", Check.how(2, 3, Check.GROWING), 4088);
        taken("up to the page's end", Check.how(2, 3, Check.GROWING), 4087);
        taken("a start that is not even", Check.how(1, 3, Check.GROWING), 4095);
        refused("over the last page", Check.how(2, 0, Check.GROWING), 65535);
        taken("fixed at the end", Check.how(16, 3, Check.FIXED), 65535);
        refused("exclusive and fixed", Check.how(1, 0, Check.FIXED) + Check.EXCLUSIVE, 0);
        refused("exclusive of 3", Check.how(3, 0, Check.GROWING) + Check.EXCLUSIVE, 0);
        refused("exclusive that is not even", Check.how(4, 1, Check.GROWING) + Check.EXCLUSIVE, 4);
        taken("exclusive of 128", Check.how(16, 3, Check.GROWING) + Check.EXCLUSIVE, 128);
        refused("exclusive wrap from its middle", Check.how(4, 1, Check.WRAPPING) + Check.EXCLUSIVE, 2);
        taken("exclusive wrap", Check.how(4, 1, Check.WRAPPING) + Check.EXCLUSIVE, 8);
    }

    private static void refused(String name, int how, int address) {
        Bus bus = new Bus(1, 1, 1);
        CHECK.badNumber(name, () -> bus.request(0, how, address, 0, 0));
        CHECK.badNumber(name + ", a write", () -> bus.request(0, how + Check.WRITE, address, 0, 0));
    }

    private static void taken(String name, int how, int address) {
        Bus bus = new Bus(1, 1, 1);
        CHECK.due(name, bus.request(0, how, address, 0, 0), 0);
        CHECK.due(name + ", a write", bus.request(0, how + Check.WRITE, address, 0, 0), 1);
        CHECK.due(name + " is done", bus.drain(200) > 0 ? 1 : 0, 1);
        CHECK.sound(name, bus);
    }

    private static void roomForTickets() {
        Bus bus = new Bus(1, 1, 8);
        for (int i = 0; i < 64; i++) {
            CHECK.due("ticket " + i, bus.request(0, (i % 2) * Check.WRITE, i, i % 16, i), i);
            bus.drain(100);
        }
        CHECK.noRoom("65th ticket", () -> bus.request(0, 0, 0, 0, 0));
        CHECK.badNumber("number before room", () -> bus.request(0, 0, 0, 16, 0));
        CHECK.due("forgotten", bus.forget(), 64);
        CHECK.due("ticket 0 again", bus.request(0, 0, 0, 0, 0), 0);
        CHECK.due("its stage", bus.ticket(0, 0), 0);
        CHECK.due("its beats", bus.ticket(0, 5), 0);
        CHECK.noIndex("ticket 1", () -> bus.ticket(1, 0));
    }

    private static void forgottenManyTimes() {
        Bus bus = new Bus(2, 1, 8);
        bus.spoil(0, 64, true);
        for (int round = 0; round < 6; round++) {
            int sort = round < 2 || round > 3 ? Check.WRITE : 0;
            for (int i = 0; i < 64; i++) {
                bus.request(round % 2, sort, i, i % 16, i);
                if (i % 32 == 0) {
                    CHECK.due("a new ticket has no response", bus.ticket(i, 1), 0);
                }
                if (i % 8 == 7) {
                    bus.drain(100);
                }
            }
            CHECK.due("a spoilt byte, of the first one", bus.ticket(0, 1), 2);
            CHECK.due("a spoilt byte, of the last one", bus.ticket(63, 1), 2);
            CHECK.due("forgotten", bus.forget(), 64);
        }
    }

    private static void roomForAddresses() {
        Bus bus = new Bus(2, 1, 8);
        for (int i = 0; i < 8; i++) {
            bus.request(0, 0, 0, 0, 0);
        }
        CHECK.noRoom("ninth read", () -> bus.request(0, 0, 0, 0, 0));
        CHECK.due("a write of the same master", bus.request(0, Check.WRITE, 0, 0, 0), 8);
        CHECK.due("a read of another one", bus.request(1, 0, 0, 0, 0), 9);
        bus.tick(1);
        CHECK.due("an address was sent", bus.request(0, 0, 0, 0, 0), 10);
        CHECK.noRoom("ninth again", () -> bus.request(0, 0, 0, 0, 0));
        for (int i = 0; i < 8; i++) {
            bus.request(1, Check.WRITE, 0, 0, 0);
        }
        CHECK.noRoom("ninth write", () -> bus.request(1, Check.WRITE, 0, 0, 0));
    }

    private static void tickAndDrain() {
        Bus bus = new Bus(1, 1, 1);
        CHECK.badNumber("tick 0", () -> bus.tick(0));
        CHECK.badNumber("tick 101", () -> bus.tick(101));
        CHECK.badNumber("tick -1", () -> bus.tick(-1));
        CHECK.badNumber("drain 0", () -> bus.drain(0));
        CHECK.badNumber("drain 1001", () -> bus.drain(1001));
        CHECK.due("no time has gone", bus.told(0), 0);
        CHECK.due("100 ticks", bus.tick(100), 0);
        CHECK.due("time", bus.told(0), 100);
        CHECK.due("nothing to drain", bus.drain(1000), 0);
        CHECK.due("time stays", bus.told(0), 100);
        bus.request(0, Check.WRITE, 0, 0, 0);
        CHECK.due("too few ticks", bus.drain(4), -1);
        CHECK.due("time of four", bus.told(0), 104);
        CHECK.due("the last tick", bus.drain(1), 1);
        bus.request(0, 0, 0, 0, 0);
        CHECK.due("a read takes four", bus.drain(1000), 4);
        CHECK.due("time then", bus.told(0), 109);
        bus.master(0, Check.AR, 0);
        bus.request(0, 0, 0, 0, 0);
        CHECK.due("never done", bus.drain(1000), -1);
        CHECK.due("a thousand ticks", bus.told(0), 1109);
        CHECK.due("all transfers of a run", allTransfers(), 16);
    }

    private static int allTransfers() {
        Bus bus = new Bus(2, 2, 2);
        bus.request(0, Check.WRITE + Check.how(2, 0, Check.GROWING), 0, 0, 0);
        bus.request(1, Check.how(3, 0, Check.GROWING), 4096, 0, 0);
        return bus.tick(50);
    }

    private static void ticketsAndForget() {
        Bus bus = new Bus(1, 2, 1);
        CHECK.due("nothing to forget", bus.forget(), 0);
        bus.request(0, 0, 4096, 0, 0);
        CHECK.noIndex("ticket -1", () -> bus.ticket(-1, 0));
        CHECK.noIndex("ticket before what", () -> bus.ticket(1, 7));
        CHECK.badNumber("what -1", () -> bus.ticket(0, -1));
        CHECK.badNumber("what 7", () -> bus.ticket(0, 7));
        CHECK.noIndex("data of no ticket", () -> bus.data(1, 0));
        CHECK.noIndex("data before they came", () -> bus.data(0, 0));
        CHECK.due("its target", bus.ticket(0, 6), 1);
        CHECK.badState("forget too early", () -> bus.forget());
        CHECK.due("it is still there", bus.told(1), 1);
        bus.drain(100);
        CHECK.due("forget", bus.forget(), 1);
        CHECK.due("no tickets", bus.told(1), 0);
        CHECK.noIndex("ticket 0", () -> bus.ticket(0, 0));
        bus.map(1, -1);
        bus.request(0, 0, 4096, 0, 0);
        CHECK.due("the default target", bus.ticket(0, 6), 2);
    }

    private static Bus written(int how, int address, long seed) {
        Bus bus = new Bus(1, 1, 4);
        bus.request(0, how + Check.WRITE, address, 1, seed);
        bus.drain(200);
        CHECK.sound("write", bus);
        return bus;
    }

    private static void unalignedGrowing() {
        Bus bus = written(Check.how(2, 2, Check.GROWING), 5, 77);
        long first = Check.seedAfter(77, 1);
        long second = Check.seedAfter(77, 2);
        CHECK.due("bytes 5 to 7", bus.data(0, 0), first & 0xFFFFFF0000000000L);
        CHECK.due("bytes 8 to 11", bus.data(0, 1), second & 0xFFFFFFFFL);
        for (int a = 0; a < 16; a++) {
            int want = a < 5 || a > 11 ? 0 : Check.laneByte(a < 8 ? first : second, a);
            CHECK.due("growing: byte " + a, bus.peek(a), want);
        }
        int t = bus.request(0, Check.how(2, 2, Check.GROWING), 5, 1, 0);
        bus.drain(100);
        CHECK.due("read back, beat 0", bus.data(t, 0), first & 0xFFFFFF0000000000L);
        CHECK.due("read back, beat 1", bus.data(t, 1), second & 0xFFFFFFFFL);
    }

    private static void fixed() {
        Bus bus = written(Check.how(3, 1, Check.FIXED), 6, -8);
        long last = Check.seedAfter(-8, 3);
        for (int a = 0; a < 16; a++) {
            CHECK.due("fixed: byte " + a, bus.peek(a), a == 6 || a == 7 ? Check.laneByte(last, a) : 0);
        }
        Bus odd = written(Check.how(2, 2, Check.FIXED), 3, 4);
        CHECK.due("fixed and not even", odd.data(0, 1), Check.seedAfter(4, 2) & 0xFF000000L);
        CHECK.due("fixed: byte 4", odd.peek(4), 0);
    }

    private static void wrapping() {
        Bus bus = written(Check.how(4, 2, Check.WRAPPING), 24, 3);
        int[] starts = {24, 28, 16, 20};
        for (int k = 0; k < 4; k++) {
            for (int a = starts[k]; a < starts[k] + 4; a++) {
                CHECK.due("wrapping: byte " + a, bus.peek(a), Check.laneByte(Check.seedAfter(3, k + 1), a));
            }
        }
        CHECK.due("wrapping: byte 32", bus.peek(32), 0);
        CHECK.due("wrapping: byte 15", bus.peek(15), 0);
    }

    private static void sparse() {
        Bus bus = written(Check.how(2, 3, Check.GROWING) + Check.SPARSE, 0, 12345);
        for (int a = 0; a < 16; a++) {
            long x = Check.seedAfter(12345, 1 + a / 8);
            boolean strobe = (x >>> 56 + a % 8 & 1) == 1;
            CHECK.due("sparse: byte " + a, bus.peek(a), strobe ? Check.laneByte(x, a) : 0);
        }
        CHECK.due("sparse: all data are told", bus.data(0, 0), Check.seedAfter(12345, 1));
    }

    private static void responseOfReads() {
        Bus bus = new Bus(1, 1, 4);
        bus.spoil(1, 1, true);
        int t = bus.request(0, Check.how(3, 0, Check.GROWING), 0, 0, 0);
        int[] responses = {0, 0, 0, 0, 2, 2};
        for (int i = 0; i < responses.length; i++) {
            bus.tick(1);
            CHECK.due("response behind tick " + i, bus.ticket(t, 1), responses[i]);
        }
    }
}
