/** Promises 2, 3, 12 and 20: arbiters, who may go, data, the default target, and the ways back. */
final class CrossbarTest {
    private static final Check CHECK = new Check();
    private static final int ONE = Check.how(1, 0, Check.GROWING);

    public static void main(String[] args) {
        for (int channel : new int[] {Check.AW, Check.AR}) {
            leastMaster(channel);
            roundAndRound(channel);
            earliest(channel);
            earliestOfRows(channel);
            mostUrgent(channel);
            chosenByWhateverPolicy(channel);
            oneOfEachTarget(channel);
            limit(channel);
            sameId(channel);
        }
        dataBindToATarget();
        dataInOrderOfAddresses();
        roomOfRows();
        defaultTarget();
        defaultTargetWaits();
        answersInTurn();
        readsInTurn();
        CHECK.end();
    }

    private static int sort(int channel) {
        return channel == Check.AW ? Check.WRITE : 0;
    }

    /** Goes n ticks: the masters whose addresses come to a slave's port. */
    private static String order(Bus bus, int slave, int channel, int n) {
        StringBuilder order = new StringBuilder();
        for (int i = 0; i < n; i++) {
            bus.tick(1);
            if (bus.wire(Check.SLAVE, slave, channel, 0) == 1) {
                order.append(bus.content(Check.SLAVE, slave, channel) % 64 / 16);
            }
        }
        return order.toString();
    }

    private static void ask(Bus bus, int channel, int... masters) {
        for (int m : masters) {
            bus.request(m, sort(channel) + ONE, 0, 0, 0);
        }
    }

    private static Bus busOf(int policy) {
        Bus bus = new Bus(3, 1, 8);
        bus.policy(policy, false);
        return bus;
    }

    private static void leastMaster(int channel) {
        Bus bus = busOf(0);
        ask(bus, channel, 2, 2, 1, 1, 0, 0, 0);
        CHECK.due("policy 0", order(bus, 0, channel, 30), "0001122");
        CHECK.sound("policy 0", bus);
    }

    private static void roundAndRound(int channel) {
        Bus bus = busOf(1);
        ask(bus, channel, 2, 2, 1, 1, 0, 0, 0);
        CHECK.due("policy 1", order(bus, 0, channel, 30), "0120120");
        ask(bus, channel, 0, 1, 2);
        CHECK.due("policy 1 goes on", order(bus, 0, channel, 30), "120");
    }

    private static void earliest(int channel) {
        Bus bus = busOf(2);
        ask(bus, channel, 1);
        bus.tick(1);
        ask(bus, channel, 0, 1, 2);
        CHECK.due("policy 2, the least of a tick", order(bus, 0, channel, 30), "1012");
        ask(bus, channel, 1, 2);
        bus.tick(1);
        ask(bus, channel, 0);
        CHECK.due("policy 2, the earliest", order(bus, 0, channel, 30), "120");
    }

    private static void earliestOfRows(int channel) {
        Bus bus = busOf(2);
        bus.slave(0, channel, 0);
        ask(bus, channel, 2, 2);
        bus.tick(5);
        for (int m : new int[] {0, 1, 0, 1}) {
            ask(bus, channel, m);
            bus.tick(1);
        }
        bus.slave(0, channel, 65535);
        CHECK.due("policy 2, two in a row", order(bus, 0, channel, 30), "220101");
    }

    private static void mostUrgent(int channel) {
        Bus bus = busOf(3);
        ask(bus, channel, 1);
        bus.tick(1);
        int[] urgencies = {14, 15, 15};
        for (int m = 0; m < 3; m++) {
            bus.request(m, sort(channel) + ONE + urgencies[m] * Check.URGENCY, 0, 0, 0);
        }
        CHECK.due("policy 3", order(bus, 0, channel, 30), "1210");
    }

    private static void chosenByWhateverPolicy(int channel) {
        Bus bus = busOf(0);
        ask(bus, channel, 1);
        order(bus, 0, channel, 20);
        bus.policy(1, false);
        ask(bus, channel, 0, 1, 2);
        CHECK.due("behind the one of policy 0", order(bus, 0, channel, 30), "201");
    }

    private static void oneOfEachTarget(int channel) {
        Bus bus = new Bus(2, 2, 8);
        bus.request(0, sort(channel) + ONE, 0, 0, 0);
        bus.request(1, sort(channel) + ONE, 4096, 0, 0);
        bus.tick(2);
        CHECK.due("slave 0 gets one", bus.content(Check.SLAVE, 0, channel) % 64, 0);
        CHECK.due("slave 1 gets one", bus.content(Check.SLAVE, 1, channel) % 64, 16);
    }

    private static void limit(int channel) {
        Bus bus = new Bus(2, 1, 2);
        bus.slave(0, channel == Check.AW ? Check.B : Check.R, 0);
        for (int i = 0; i < 4; i++) {
            bus.request(0, sort(channel) + ONE, 0, i, 0);
        }
        bus.tick(20);
        int what = channel == Check.AW ? 0 : 1;
        CHECK.due("two of the limit", bus.target(0, what), 2);
        CHECK.due("two at the slave", bus.port(Check.SLAVE, 0, channel), 2);
        bus.request(1, sort(channel) + ONE, 0, 0, 0);
        bus.tick(20);
        CHECK.due("another master has its own limit", bus.target(0, what), 3);
        bus.slave(0, channel == Check.AW ? Check.B : Check.R, 65535);
        CHECK.due("and then all", bus.drain(50) > 0 ? 1 : 0, 1);
        CHECK.sound("limit", bus);
    }

    private static void sameId(int channel) {
        Bus bus = new Bus(1, 2, 8);
        bus.slave(0, channel == Check.AW ? Check.B : Check.R, 0);
        bus.request(0, sort(channel) + ONE, 0, 3, 0);
        bus.request(0, sort(channel) + ONE, 4096, 3, 0);
        bus.tick(20);
        CHECK.due("the same ID waits", bus.port(Check.SLAVE, 1, channel), 0);
        bus.slave(0, channel == Check.AW ? Check.B : Check.R, 65535);
        bus.tick(20);
        CHECK.due("till the answer was moved", bus.port(Check.SLAVE, 1, channel), 1);
        bus.slave(0, channel == Check.AW ? Check.B : Check.R, 0);
        bus.request(0, sort(channel) + ONE, 0, 3, 0);
        bus.request(0, sort(channel) + ONE, 4096, 4, 0);
        bus.tick(20);
        CHECK.due("another ID goes", bus.port(Check.SLAVE, 1, channel), 2);
    }

    private static void dataBindToATarget() {
        Bus bus = new Bus(1, 2, 8);
        bus.master(0, Check.W, 0);
        bus.request(0, Check.WRITE + ONE, 0, 1, 0);
        bus.request(0, Check.WRITE + ONE, 0, 2, 0);
        bus.request(0, Check.WRITE + ONE, 4096, 3, 0);
        bus.tick(20);
        CHECK.due("to the same target", bus.target(0, 0), 2);
        CHECK.due("not to another one", bus.target(1, 0), 0);
        bus.request(0, ONE, 0, 1, 0);
        bus.request(0, ONE, 4096, 2, 0);
        bus.tick(2);
        CHECK.due("reads are not bound", bus.target(1, 1), 1);
        bus.master(0, Check.W, 65535);
        bus.tick(2);
        CHECK.due("not with data to move", bus.target(1, 0), 0);
        bus.tick(1);
        CHECK.due("when the data were moved", bus.target(1, 0), 1);
    }

    private static void dataInOrderOfAddresses() {
        Bus bus = new Bus(2, 1, 8);
        bus.master(0, Check.W, 0);
        ask(bus, Check.AW, 0, 1);
        bus.tick(20);
        CHECK.due("master 1 sends", bus.port(Check.MASTER, 1, Check.W), 1);
        CHECK.due("but waits for master 0", bus.port(Check.SLAVE, 0, Check.W), 0);
        bus.master(0, Check.W, 65535);
        CHECK.due("then both", bus.drain(20) > 0 ? 1 : 0, 1);
        CHECK.due("master 0 before master 1", bus.ticket(1, 4) - bus.ticket(0, 4), 1);
    }

    private static void roomOfRows() {
        Bus bus = new Bus(1, 1, 8);
        bus.slave(0, Check.AR, 0);
        ask(bus, Check.AR, 0, 0, 0, 0, 0, 0, 0);
        bus.tick(20);
        CHECK.due("AR: two rows of two", bus.port(Check.MASTER, 0, Check.AR), 4);
        bus.slave(0, Check.AR, 65535);
        bus.drain(50);
        bus.master(0, Check.B, 0);
        bus.master(0, Check.R, 0);
        ask(bus, Check.AW, 0, 0, 0, 0, 0, 0, 0, 0);
        bus.request(0, Check.how(16, 0, Check.GROWING), 0, 0, 0);
        bus.tick(40);
        CHECK.due("B: two rows of two", bus.port(Check.SLAVE, 0, Check.B), 4);
        CHECK.due("R: two rows of four", bus.port(Check.SLAVE, 0, Check.R), 7 + 8);
        CHECK.due("the slave has four writes at once", bus.target(0, 2), 4);
        CHECK.sound("rows", bus);
    }

    private static void defaultTarget() {
        Bus bus = new Bus(2, 1, 8);
        bus.map(5, -1);
        int read = bus.request(1, Check.how(3, 3, Check.GROWING), 5 * 4096, 9, 0);
        CHECK.due("a read of three takes four", bus.drain(50), 4);
        CHECK.due("read: no slave", bus.ticket(read, 1), 3);
        CHECK.due("read: data", bus.data(read, 2), 0);
        int write = bus.request(1, Check.WRITE + Check.how(3, 3, Check.GROWING), 5 * 4096, 9, 4);
        CHECK.due("a write of three takes five", bus.drain(50), 5);
        CHECK.due("write: no slave", bus.ticket(write, 1), 3);
        CHECK.due("write: nothing is written", bus.peek(5 * 4096), 0);
        CHECK.due("write: its data", bus.data(write, 2), Check.seedAfter(4, 3));
        bus.early(1, true);
        bus.request(1, Check.WRITE + ONE, 5 * 4096, 9, 4);
        CHECK.due("an early write of one takes two", bus.drain(50), 2);
        CHECK.due("B's REST", bus.wire(Check.MASTER, 1, Check.B, 2), 9 + 3 * 64);
        CHECK.due("nothing at the slave", bus.port(Check.SLAVE, 0, Check.AW) + bus.port(Check.SLAVE, 0, Check.AR), 0);
        CHECK.sound("default target", bus);
    }

    private static void defaultTargetWaits() {
        Bus bus = new Bus(1, 1, 8);
        bus.map(0, -1);
        bus.master(0, Check.B, 0);
        bus.master(0, Check.R, 0);
        ask(bus, Check.AW, 0, 0, 0, 0, 0, 0, 0, 0);
        bus.request(0, Check.how(16, 0, Check.GROWING), 0, 0, 0);
        bus.tick(40);
        CHECK.due("writes under way", bus.target(1, 0), 4);
        CHECK.due("the read is under way", bus.target(1, 1), 1);
        bus.master(0, Check.R, 65535);
        bus.tick(20);
        CHECK.due("till its LAST was moved", bus.target(1, 1), 0);
        bus.master(0, Check.B, 65535);
        bus.tick(20);
        CHECK.due("all writes are done", bus.told(2), 0);
    }

    /** Goes till all is done: the last digits of the IDs that come to master 0 on a channel. */
    private static String answers(Bus bus, int channel) {
        StringBuilder order = new StringBuilder();
        for (int i = 0; i < 100; i++) {
            bus.tick(1);
            if (bus.wire(Check.MASTER, 0, channel, 0) + bus.wire(Check.MASTER, 0, channel, 1) == 2) {
                order.append(bus.wire(Check.MASTER, 0, channel, 2) % 64);
            }
        }
        CHECK.due("all is done", bus.told(2), 0);
        CHECK.sound("answers", bus);
        return order.toString();
    }

    /** Two slaves have all they can answer, and none of it has come to a master. */
    private static Bus stopped(int sort, int length) {
        Bus bus = new Bus(1, 2, 8);
        int back = sort == 0 ? Check.R : Check.B;
        bus.slave(0, back, 0);
        bus.slave(1, back, 0);
        for (int i = 0; i < 4; i++) {
            bus.request(0, sort + Check.how(length, 0, Check.GROWING), 4096 * (i % 2), 1 + i, 0);
        }
        bus.tick(60);
        bus.slave(0, back, 65535);
        bus.slave(1, back, 65535);
        return bus;
    }

    private static void answersInTurn() {
        CHECK.due("B in turn", answers(stopped(Check.WRITE, 1), Check.B), "1234");
        Bus bus = stopped(Check.WRITE, 1);
        bus.slave(0, Check.B, 0);
        bus.tick(20);
        bus.slave(0, Check.B, 65535);
        CHECK.due("B of one target", answers(bus, Check.B), "13");
    }

    private static void readsInTurn() {
        CHECK.due("R in turn", answers(stopped(0, 2), Check.R), "12123434");
        Bus whole = stopped(0, 2);
        whole.policy(1, true);
        CHECK.due("R by whole bursts", answers(whole, Check.R), "11223344");
        Bus late = stopped(0, 3);
        late.tick(3);
        late.policy(1, true);
        CHECK.due("WHOLE from now on", answers(late, Check.R), "1122333444");
    }
}
