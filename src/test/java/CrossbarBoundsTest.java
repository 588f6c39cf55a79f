/** Section 4: rows that are full or empty, the LIMIT, turns that go round, and the DEFAULT target behind the slaves. */
final class CrossbarBoundsTest {
    private static final Check CHECK = new Check();
    private static final int ONE = Check.how(1, 0, Check.GROWING);
    private static final int ALL = 65535;
    private static final int[] ADDRESSES = {Check.AW, Check.AR};

    public static void main(String[] args) {
        for (int channel : ADDRESSES) {
            rowsOfAddresses(channel);
            for (int limit = 1; limit <= 8; limit++) {
                limitOf(channel, limit);
            }
            for (int masters = 1; masters <= 4; masters++) {
                mastersInTurn(channel, masters);
            }
            turnsOfSome(channel);
            turnsOfEachTarget(channel);
            earliestTick(channel);
            everyUrgency(channel);
            urgentInTurn(channel);
        }
        rowsOfData();
        rowsOfAnswers();
        rowsOfReadBeats();
        dataOfOtherTargets();
        dataInTheOrderOfAddresses();
        limitTillItsAnswerIsMoved();
        limitTillItsLastBeatIsMoved();
        addressesOfTheDefaultTarget();
        answersOfTheDefaultTarget();
        beatsOfTheDefaultTarget();
        readsOfTheDefaultTarget();
        defaultTargetOfEachSize();
        answersGoRound();
        readBeatsGoRound();
        wholeBurstsGoRound();
        idsThereAndBack();
        CHECK.end();
    }

    private static int sort(int channel) {
        return channel == Check.AW || channel == Check.B ? Check.WRITE : 0;
    }

    private static int back(int channel) {
        return channel == Check.AW ? Check.B : Check.R;
    }

    private static void ask(Bus bus, int count, int how, int address) {
        for (int i = 0; i < count; i++) {
            bus.request(0, how, address, i % 16, i);
        }
    }

    /** READY (1) or VALID (0) on a channel in the next ticks. */
    private static String wires(Bus bus, int ticks, int side, int channel, int what) {
        StringBuilder seen = new StringBuilder();
        for (int i = 0; i < ticks; i++) {
            bus.tick(1);
            seen.append(bus.wire(side, 0, channel, what));
        }
        return seen.toString();
    }

    /** Two for the target and two for the master; with four in there is no room, and with one less there is. */
    private static void rowsOfAddresses(int channel) {
        Bus bus = new Bus(1, 1, 8);
        bus.slave(0, channel, 0);
        bus.master(0, Check.W, 0);
        ask(bus, 8, sort(channel) + ONE, 0);
        CHECK.due("room for four", wires(bus, 7, Check.MASTER, channel, 1), "1111000");
        CHECK.due("four went", bus.port(Check.MASTER, 0, channel), 4);
        CHECK.due("two are under way", bus.target(0, channel == Check.AW ? 0 : 1), 2);
        bus.slave(0, channel, 1 << 8);
        CHECK.due("one more, in the tick behind", wires(bus, 5, Check.MASTER, channel, 1), "00100");
        CHECK.due("five went", bus.port(Check.MASTER, 0, channel), 5);
        CHECK.due("one came to the slave", bus.port(Check.SLAVE, 0, channel), 1);
        Bus empty = new Bus(1, 1, 8);
        empty.slave(0, channel, 0);
        CHECK.due("no VALID of an empty row", wires(empty, 3, Check.SLAVE, channel, 0), "000");
        ask(empty, 1, sort(channel) + ONE, 0);
        CHECK.due("VALID from the next tick on", wires(empty, 3, Check.SLAVE, channel, 0), "011");
    }

    private static void rowsOfData() {
        Bus bus = new Bus(1, 1, 8);
        bus.slave(0, Check.W, 0);
        ask(bus, 1, Check.WRITE + Check.how(16, 0, Check.GROWING), 0);
        CHECK.due("room for eight", wires(bus, 12, Check.MASTER, Check.W, 1), "111111111000");
        CHECK.due("eight went", bus.port(Check.MASTER, 0, Check.W), 8);
        bus.slave(0, Check.W, 1 << 13);
        CHECK.due("one more, in the tick behind", wires(bus, 4, Check.MASTER, Check.W, 1), "0010");
        CHECK.due("nine went", bus.port(Check.MASTER, 0, Check.W), 9);
        Bus early = new Bus(1, 1, 8);
        early.early(0, true);
        early.master(0, Check.AW, 0);
        ask(early, 1, Check.WRITE + Check.how(16, 0, Check.GROWING), 0);
        CHECK.due("room for four without an address", wires(early, 6, Check.MASTER, Check.W, 1), "111100");
        CHECK.due("four went", early.port(Check.MASTER, 0, Check.W), 4);
    }

    private static void rowsOfAnswers() {
        Bus bus = new Bus(1, 1, 8);
        bus.slave(0, Check.B, 0);
        bus.master(0, Check.B, 0);
        ask(bus, 8, Check.WRITE + ONE, 0);
        bus.tick(32);
        bus.slave(0, Check.B, ALL);
        CHECK.due("room for four", wires(bus, 7, Check.SLAVE, Check.B, 1), "1111000");
        CHECK.due("four went", bus.port(Check.SLAVE, 0, Check.B), 4);
        bus.master(0, Check.B, 1 << 9);
        CHECK.due("one more, in the tick behind", wires(bus, 5, Check.SLAVE, Check.B, 1), "00010");
        CHECK.due("five went", bus.port(Check.SLAVE, 0, Check.B), 5);
        CHECK.due("one came to the master", bus.port(Check.MASTER, 0, Check.B), 1);
    }

    private static void rowsOfReadBeats() {
        Bus bus = new Bus(1, 1, 8);
        bus.slave(0, Check.R, 0);
        bus.master(0, Check.R, 0);
        ask(bus, 1, Check.how(16, 0, Check.GROWING), 0);
        bus.tick(16);
        bus.slave(0, Check.R, ALL);
        CHECK.due("room for eight", wires(bus, 11, Check.SLAVE, Check.R, 1), "11111111000");
        CHECK.due("eight went", bus.port(Check.SLAVE, 0, Check.R), 8);
        bus.master(0, Check.R, 1 << 13);
        CHECK.due("one more, in the tick behind", wires(bus, 5, Check.SLAVE, Check.R, 1), "00010");
        CHECK.due("nine went", bus.port(Check.SLAVE, 0, Check.R), 9);
    }

    /** Data wait for those of an earlier write to the same target, not to another one. */
    private static void dataOfOtherTargets() {
        for (int address : new int[] {0, 4096, 8192}) {
            Bus bus = new Bus(2, 2, 8);
            bus.map(2, -1);
            bus.master(0, Check.W, 0);
            bus.request(0, Check.WRITE + ONE, 0, 0, 0);
            bus.tick(3);
            int write = bus.request(1, Check.WRITE + ONE, address, 0, 0);
            bus.tick(30);
            CHECK.due("a write at " + address, bus.ticket(write, 0), address == 0 ? 1 : 2);
            bus.master(0, Check.W, ALL);
            CHECK.due("then both", bus.drain(30) > 0, true);
        }
    }

    /** Master 0's second write came behind master 1's: its data wait, also when master 0's first one is done. */
    private static void dataInTheOrderOfAddresses() {
        Bus bus = new Bus(2, 1, 8);
        bus.master(1, Check.W, 0);
        int[] tickets = {bus.request(0, Check.WRITE + ONE, 0, 1, 10), bus.request(1, Check.WRITE + ONE, 0, 1, 11),
            bus.request(0, Check.WRITE + ONE, 0, 2, 12)};
        bus.tick(40);
        CHECK.due("the first is done", bus.ticket(tickets[0], 0), 2);
        CHECK.due("data of the third came to the crossbar", bus.port(Check.MASTER, 0, Check.W), 2);
        CHECK.due("but not to the slave", bus.port(Check.SLAVE, 0, Check.W), 1);
        CHECK.due("which has two writes", bus.target(0, 2), 2);
        bus.master(1, Check.W, ALL);
        CHECK.due("now they go", bus.drain(40) > 0, true);
        CHECK.due("the second was done before the third", bus.ticket(tickets[1], 4) < bus.ticket(tickets[2], 4), true);
        CHECK.due("what the third wrote stays", bus.peek(0), bus.data(tickets[2], 0));
    }

    /** So many are under way as the LIMIT tells, to all targets together, and not one more. */
    private static void limitOf(int channel, int limit) {
        Bus bus = new Bus(2, 2, limit);
        bus.slave(0, back(channel), 0);
        bus.slave(1, back(channel), 0);
        for (int i = 0; i < limit + 3; i++) {
            bus.request(0, sort(channel) + ONE, 4096 * (i % 2), i, 0);
            bus.tick(20);
        }
        int what = channel == Check.AW ? 0 : 1;
        CHECK.due("under way with limit " + limit, bus.target(0, what) + bus.target(1, what), limit);
        CHECK.due("two more in the master's row", bus.port(Check.MASTER, 0, channel), limit + 2);
        bus.request(1, sort(channel) + ONE, 0, 0, 0);
        bus.tick(20);
        CHECK.due("another master's limit", bus.target(0, what) + bus.target(1, what), limit + 1);
        bus.slave(0, back(channel), ALL);
        bus.slave(1, back(channel), ALL);
        CHECK.due("then all go", bus.drain(500) > 0, true);
        CHECK.sound("limit", bus);
    }

    /** It is under way till its B is moved to the master's row, not till the master takes it. */
    private static void limitTillItsAnswerIsMoved() {
        Bus bus = new Bus(1, 1, 1);
        bus.master(0, Check.B, 0);
        ask(bus, 8, Check.WRITE + ONE, 0);
        bus.tick(60);
        CHECK.due("two were moved to the master's row, one waits", bus.port(Check.SLAVE, 0, Check.B), 3);
        CHECK.due("that one is under way", bus.target(0, 0), 1);
        CHECK.due("no more came to the slave", bus.port(Check.SLAVE, 0, Check.AW), 3);
    }

    private static void limitTillItsLastBeatIsMoved() {
        Bus bus = new Bus(1, 1, 1);
        bus.master(0, Check.R, 0);
        ask(bus, 8, Check.how(2, 0, Check.GROWING), 0);
        bus.tick(60);
        CHECK.due("four beats were moved, two wait", bus.port(Check.SLAVE, 0, Check.R), 6);
        CHECK.due("their read is under way", bus.target(0, 1), 1);
        CHECK.due("no more came to the slave", bus.port(Check.SLAVE, 0, Check.AR), 3);
    }

    /** Goes on: the masters whose addresses come to slave 0. */
    private static String order(Bus bus, int channel, int ticks) {
        StringBuilder order = new StringBuilder();
        for (int i = 0; i < ticks; i++) {
            bus.tick(1);
            if (bus.wire(Check.SLAVE, 0, channel, 0) == 1 && bus.wire(Check.SLAVE, 0, channel, 1) == 1) {
                order.append(bus.content(Check.SLAVE, 0, channel) % 64 / 16);
            }
        }
        return order.toString();
    }

    private static void mastersInTurn(int channel, int masters) {
        Bus bus = new Bus(masters, 1, 8);
        StringBuilder want = new StringBuilder();
        for (int i = 0; i < 4 * masters; i++) {
            bus.request(masters - 1 - i % masters, sort(channel) + ONE, 0, 0, 0);
            want.append(i % masters);
        }
        CHECK.due("turns of " + masters, order(bus, channel, 60), want.toString());
        bus.request(0, sort(channel) + ONE, 0, 0, 0);
        CHECK.due("from the last one to the first", order(bus, channel, 20), "0");
    }

    /** Behind the last master comes the first one that is there. */
    private static void turnsOfSome(int channel) {
        Bus bus = new Bus(4, 1, 8);
        for (int m : new int[] {3, 1, 3, 1, 3, 1}) {
            bus.request(m, sort(channel) + ONE, 0, 0, 0);
        }
        CHECK.due("turns of 1 and 3", order(bus, channel, 40), "131313");
        for (int m : new int[] {3, 2, 0}) {
            bus.request(m, sort(channel) + ONE, 0, 0, 0);
        }
        CHECK.due("behind 3", order(bus, channel, 40), "023");
        for (int m : new int[] {3, 2}) {
            bus.request(m, sort(channel) + ONE, 0, 0, 0);
        }
        CHECK.due("behind 3 again", order(bus, channel, 40), "23");
    }

    /** Each target has an arbiter of its own, and AW and AR have: one's choice is not another's. */
    private static void turnsOfEachTarget(int channel) {
        Bus bus = new Bus(2, 2, 8);
        bus.request(0, sort(channel) + ONE, 4096, 0, 0);
        bus.request(0, Check.WRITE - sort(channel) + ONE, 0, 0, 0);
        bus.drain(50);
        bus.request(0, sort(channel) + ONE, 0, 0, 0);
        bus.request(1, sort(channel) + ONE, 0, 0, 0);
        CHECK.due("slave 0 begins with 0", order(bus, channel, 20), "01");
    }

    /** All are requested at once; master 1's comes to the crossbar one tick ahead, or in the same tick. */
    private static void earliestTick(int channel) {
        for (int ahead = 0; ahead < 2; ahead++) {
            Bus bus = new Bus(3, 1, 8);
            bus.policy(2, false);
            bus.slave(0, channel, 0);
            bus.master(0, channel, 1 << 6);
            bus.master(1, channel, 1 << 6 - ahead);
            for (int m : new int[] {2, 2, 0, 1}) {
                bus.request(m, sort(channel) + ONE, 0, 0, 0);
            }
            bus.tick(10);
            bus.slave(0, channel, ALL);
            String want = ahead == 1 ? "2210" : "2201";
            CHECK.due("ahead by " + ahead + " ticks", order(bus, channel, 20), want);
        }
    }

    private static void everyUrgency(int channel) {
        for (int first = 0; first < 16; first++) {
            for (int second = 0; second < 16; second++) {
                Bus bus = new Bus(2, 1, 8);
                bus.policy(3, false);
                int exclusive = (first + second) % 2 * Check.EXCLUSIVE;
                bus.request(0, sort(channel) + ONE + first * Check.URGENCY + exclusive, 0, 0, 0);
                bus.request(1, sort(channel) + ONE + second * Check.URGENCY, 0, 0, 0);
                String want = second > first ? "10" : "01";
                CHECK.due("urgencies " + first + " and " + second, order(bus, channel, 10), want);
            }
        }
    }

    /** Of those with the greatest urgency the next one in turn. */
    private static void urgentInTurn(int channel) {
        for (int last = 0; last < 4; last++) {
            Bus bus = new Bus(4, 1, 8);
            bus.policy(3, false);
            bus.request(last, sort(channel) + ONE, 0, 0, 0);
            bus.drain(20);
            for (int m = 0; m < 4; m++) {
                bus.request(m, sort(channel) + ONE + 15 * Check.URGENCY, 0, 0, 0);
            }
            StringBuilder want = new StringBuilder();
            for (int i = 1; i <= 4; i++) {
                want.append((last + i) % 4);
            }
            CHECK.due("all urgent, behind " + last, order(bus, channel, 20), want.toString());
        }
    }

    private static Bus busWithoutSlave() {
        Bus bus = new Bus(1, 1, 8);
        bus.map(0, -1);
        return bus;
    }

    private static void addressesOfTheDefaultTarget() {
        Bus bus = busWithoutSlave();
        bus.master(0, Check.W, 0);
        ask(bus, 8, Check.WRITE + ONE, 0);
        CHECK.due("room for four AW", wires(bus, 7, Check.MASTER, Check.AW, 1), "1111000");
        CHECK.due("two writes under way", bus.target(1, 0), 2);
        Bus reads = busWithoutSlave();
        reads.master(0, Check.R, 0);
        ask(reads, 8, Check.how(16, 0, Check.GROWING), 0);
        CHECK.due("room for four AR", wires(reads, 7, Check.MASTER, Check.AR, 1), "1111000");
        CHECK.due("two reads under way", reads.target(1, 1), 2);
    }

    /**
     * Four B have room, so four writes go; of the fifth all beats but the LAST one, which waits with
     * three beats more in the target's row, and four wait in the master's.
     */
    private static void answersOfTheDefaultTarget() {
        Bus bus = busWithoutSlave();
        bus.master(0, Check.B, 0);
        ask(bus, 8, Check.WRITE + Check.how(4, 0, Check.GROWING), 0);
        bus.tick(80);
        CHECK.due("beats that went", bus.port(Check.MASTER, 0, Check.W), 16 + 3 + 4 + 4);
        CHECK.due("writes under way", bus.target(1, 0), 4);
        bus.master(0, Check.B, 1 << 80 % 16);
        bus.tick(16);
        CHECK.due("one B more, four beats more", bus.port(Check.MASTER, 0, Check.W), 31);
        bus.master(0, Check.B, ALL);
        CHECK.due("then all", bus.drain(100) > 0, true);
        CHECK.sound("answers of the default target", bus);
    }

    /** Eight beats have room: four in the target's row, four in the master's. */
    private static void beatsOfTheDefaultTarget() {
        for (int length : new int[] {1, 7, 8, 9, 16}) {
            Bus bus = busWithoutSlave();
            bus.master(0, Check.R, 0);
            int ticket = bus.request(0, Check.how(length, 0, Check.GROWING), 0, 15, 0);
            bus.tick(40);
            CHECK.due("a read of " + length + " is under way", bus.target(1, 1), length <= 4 ? 0 : 1);
            bus.master(0, Check.R, ALL);
            CHECK.due("a read of " + length, bus.drain(100), length);
            CHECK.due("its beats", bus.ticket(ticket, 5), length);
            CHECK.due("the LAST one", bus.wire(Check.MASTER, 0, Check.R, 2), 15 + 3 * 64 + 256);
            CHECK.due("its CONTENT", bus.content(Check.MASTER, 0, Check.R), 0);
        }
    }

    /** Each read has its own l beats, whatever came before it. */
    private static void readsOfTheDefaultTarget() {
        int[] lengths = {3, 1, 16, 2, 2};
        Bus bus = busWithoutSlave();
        for (int i = 0; i < lengths.length; i++) {
            bus.request(0, Check.how(lengths[i], 0, Check.GROWING), 0, i, 0);
        }
        StringBuilder want = new StringBuilder();
        for (int i = 0; i < lengths.length; i++) {
            want.append((i + " ").repeat(lengths[i] - 1)).append(i).append("! ");
        }
        StringBuilder seen = new StringBuilder();
        for (int i = 0; i < 30; i++) {
            bus.tick(1);
            int rest = bus.wire(Check.MASTER, 0, Check.R, 2);
            if (bus.wire(Check.MASTER, 0, Check.R, 0) == 1) {
                seen.append(rest % 64).append(rest >= 256 ? "! " : " ");
            }
        }
        CHECK.due("beats of reads in a row", seen.toString(), want.toString());
        CHECK.sound("reads of the default target", bus);
    }

    /** The DEFAULT target's number is that behind the last slave. */
    private static void defaultTargetOfEachSize() {
        for (int slaves = 1; slaves <= 4; slaves++) {
            Bus bus = new Bus(1, slaves, 8);
            bus.map(slaves - 1, -1);
            bus.master(0, Check.W, 0);
            int write = bus.request(0, Check.WRITE + ONE, 4096 * (slaves - 1), 0, 0);
            int read = bus.request(0, Check.how(16, 0, Check.GROWING), 4096 * (slaves - 1), 0, 0);
            bus.tick(2);
            CHECK.due("target of the write", bus.ticket(write, 6), slaves);
            CHECK.due("a write under way", bus.target(slaves, 0), 1);
            CHECK.due("a read under way", bus.target(slaves, 1), 1);
            CHECK.due("no writes at once", bus.target(slaves, 2), 0);
            CHECK.due("no reads at once", bus.target(slaves, 3), 0);
            CHECK.due("none under way to the last slave", bus.target(slaves - 1, 0) + bus.target(slaves - 1, 1), 0);
            int behind = slaves + 1;
            CHECK.noIndex("no target behind it", () -> bus.target(behind, 0));
            bus.master(0, Check.W, ALL);
            bus.drain(100);
            CHECK.due("no slave for the write", bus.ticket(write, 1), 3);
            CHECK.due("no slave for the read", bus.ticket(read, 1), 3);
        }
    }

    /** Goes on: the IDs that come to the master. */
    private static String answers(Bus bus, int channel, int ticks) {
        StringBuilder order = new StringBuilder();
        for (int i = 0; i < ticks; i++) {
            bus.tick(1);
            if (bus.wire(Check.MASTER, 0, channel, 0) == 1) {
                order.append(bus.wire(Check.MASTER, 0, channel, 2) % 64);
            }
        }
        return order.toString();
    }

    /** The master's row is full of target 0's, and at two slaves and the DEFAULT target something waits. */
    private static Bus waiting(int channel, int filling, int length, int each) {
        Bus bus = new Bus(1, 2, 8);
        bus.map(2, -1);
        bus.master(0, channel, 0);
        bus.request(0, sort(channel) + Check.how(filling, 0, Check.GROWING), 0, 9, 0);
        bus.tick(30);
        if (channel == Check.B) {
            bus.request(0, sort(channel) + ONE, 0, 9, 0);
            bus.tick(30);
        }
        for (int i = 0; i < 3 * each; i++) {
            bus.request(0, sort(channel) + Check.how(length, 0, Check.GROWING), 4096 * (i % 3), 1 + i % 3, 0);
            bus.tick(20);
        }
        bus.master(0, channel, ALL);
        return bus;
    }

    private static void answersGoRound() {
        CHECK.due("B goes round", answers(waiting(Check.B, 1, 1, 2), Check.B, 20), "99231231");
        CHECK.due("B, one each", answers(waiting(Check.B, 1, 1, 1), Check.B, 20), "99231");
    }

    private static void readBeatsGoRound() {
        CHECK.due("R goes round", answers(waiting(Check.R, 4, 2, 1), Check.R, 30), "9999231231");
        CHECK.due("R goes round twice", answers(waiting(Check.R, 4, 1, 2), Check.R, 30), "9999231231");
    }

    private static void wholeBurstsGoRound() {
        Bus bus = waiting(Check.R, 4, 3, 1);
        bus.policy(1, true);
        CHECK.due("R by whole bursts", answers(bus, Check.R, 30), "9999222333111");
        Bus inside = waiting(Check.R, 4, 3, 1);
        inside.tick(1);
        inside.policy(1, true);
        CHECK.due("WHOLE behind a first beat", answers(inside, Check.R, 30), "999222333111");
        Bus single = waiting(Check.R, 4, 1, 2);
        single.policy(1, true);
        CHECK.due("bursts of one are whole", answers(single, Check.R, 30), "9999231231");
    }

    /** The least and the greatest master and ID. */
    private static void idsThereAndBack() {
        for (int master : new int[] {0, 3}) {
            for (int id : new int[] {0, 15}) {
                Bus bus = new Bus(4, 1, 8);
                bus.request(master, Check.WRITE + ONE, 0, id, 0);
                bus.request(master, ONE, 0, id, 0);
                int there = 16 * master + id;
                bus.tick(2);
                CHECK.due("AW there", bus.content(Check.SLAVE, 0, Check.AW) % 64, there);
                CHECK.due("AR there", bus.content(Check.SLAVE, 0, Check.AR) % 64, there);
                bus.tick(1);
                CHECK.due("R there", bus.wire(Check.SLAVE, 0, Check.R, 2), there + 256);
                bus.tick(1);
                CHECK.due("R back", bus.wire(Check.MASTER, master, Check.R, 2), id + 256);
                CHECK.due("B there", bus.wire(Check.SLAVE, 0, Check.B, 2), there);
                bus.tick(1);
                CHECK.due("B back", bus.wire(Check.MASTER, master, Check.B, 2), id);
                CHECK.due("both are done", bus.told(2), 0);
            }
        }
    }
}
