/** Section 2 and promises 12, 13 and 22: time, patterns that go round, and the last calls that are promised. */
final class TickBoundsTest {
    private static final Check CHECK = new Check();
    private static final int ONE = Check.how(1, 0, Check.GROWING);
    private static final int TICKS = 50;

    public static void main(String[] args) {
        timeAtFirst();
        leastAndMostTicks();
        leastAndMostDrain();
        nothingToDrain();
        doneInTheLastTick();
        doneInTheThousandthTick();
        drainBesideOthers();
        for (int bit = 0; bit < 16; bit++) {
            masterPatternsGoRound(bit);
            slavePatternsGoRound(bit);
        }
        patternFarOn();
        emptyPatterns();
        lowestBits();
        for (int channel = 0; channel < 5; channel++) {
            heldAtTheMaster(channel);
            heldAtTheSlave(channel);
        }
        lastPromisedCall();
        toldBounds();
        CHECK.end();
    }

    private static void timeAtFirst() {
        Bus bus = new Bus(1, 1, 1);
        CHECK.due("TIME at first", bus.told(0), 0);
        int ticket = bus.request(0, ONE, 0, 0, 0);
        bus.tick(1);
        CHECK.due("requested in tick 0", bus.ticket(ticket, 2), 0);
        CHECK.due("transferred in tick 0", bus.ticket(ticket, 3), 0);
        CHECK.due("TIME is 1 more", bus.told(0), 1);
    }

    private static void leastAndMostTicks() {
        Bus bus = new Bus(1, 1, 1);
        bus.tick(1);
        CHECK.due("one tick", bus.told(0), 1);
        bus.tick(100);
        CHECK.due("a hundred", bus.told(0), 101);
        CHECK.badNumber("none", () -> bus.tick(0));
        CHECK.badNumber("a hundred and one", () -> bus.tick(101));
        CHECK.due("TIME stays", bus.told(0), 101);
        CHECK.due("no transfers without requests", bus.tick(100), 0);
        bus.request(0, ONE, 0, 0, 0);
        CHECK.due("all transfers of many ticks", bus.tick(100), 4);
    }

    private static void leastAndMostDrain() {
        Bus bus = new Bus(1, 1, 1);
        bus.master(0, Check.AR, 0);
        bus.request(0, ONE, 0, 0, 0);
        CHECK.due("one tick is too few", bus.drain(1), -1);
        CHECK.due("TIME of one", bus.told(0), 1);
        CHECK.due("a thousand are too few", bus.drain(1000), -1);
        CHECK.due("TIME of a thousand", bus.told(0), 1001);
        CHECK.badNumber("none", () -> bus.drain(0));
        CHECK.badNumber("a thousand and one", () -> bus.drain(1001));
        CHECK.due("TIME stays", bus.told(0), 1001);
        bus.master(0, Check.AR, 65535);
        CHECK.due("then it is done", bus.drain(1000), 4);
        CHECK.due("TIME of those", bus.told(0), 1005);
    }

    private static void nothingToDrain() {
        Bus bus = new Bus(2, 2, 2);
        CHECK.due("no requests", bus.drain(1), 0);
        CHECK.due("no requests, many ticks", bus.drain(1000), 0);
        CHECK.due("no time has gone", bus.told(0), 0);
        bus.request(0, ONE, 0, 0, 0);
        bus.drain(1000);
        int time = bus.told(0);
        CHECK.due("all are done", bus.drain(1000), 0);
        CHECK.due("no more time has gone", bus.told(0), time);
    }

    /** A read is done in its fourth tick. */
    private static void doneInTheLastTick() {
        int[] most = {1, 2, 3, 4, 5, 1000};
        int[] answers = {-1, -1, -1, 4, 4, 4};
        int[] times = {1, 2, 3, 4, 4, 4};
        for (int i = 0; i < most.length; i++) {
            Bus bus = new Bus(1, 1, 1);
            bus.request(0, ONE, 0, 0, 0);
            CHECK.due("drain " + most[i], bus.drain(most[i]), answers[i]);
            CHECK.due("time of drain " + most[i], bus.told(0), times[i]);
            CHECK.due("not done behind " + most[i], bus.told(2), answers[i] == -1 ? 1 : 0);
        }
    }

    /** 63 beats, one in 16 ticks, in tick 7 at first: the last one goes in tick 999. */
    private static void doneInTheThousandthTick() {
        for (int most : new int[] {999, 1000}) {
            Bus bus = new Bus(1, 1, 8);
            bus.master(0, Check.R, 1 << 7);
            for (int length : new int[] {16, 16, 16, 15}) {
                bus.request(0, Check.how(length, 0, Check.GROWING), 0, 0, 0);
            }
            CHECK.due("63 beats, drain " + most, bus.drain(most), most == 1000 ? 1000 : -1);
            CHECK.due("its TIME", bus.told(0), most);
        }
    }

    private static void drainBesideOthers() {
        Bus bus = new Bus(2, 1, 1);
        bus.request(0, ONE, 0, 0, 0);
        bus.master(1, Check.AW, 0);
        bus.request(1, Check.WRITE + ONE, 0, 0, 0);
        CHECK.due("one is done, one is not", bus.drain(20), -1);
        CHECK.due("one is left", bus.told(2), 1);
        CHECK.due("all 20 ticks went", bus.told(0), 20);
    }

    /** In which of the ticks from here on a wire is up, as text of 0 and 1. */
    private static String ups(Bus bus, int side, int channel, int what) {
        StringBuilder ups = new StringBuilder();
        for (int i = 0; i < TICKS; i++) {
            bus.tick(1);
            ups.append(bus.wire(side, 0, channel, what));
        }
        return ups.toString();
    }

    private static String wanted(int pattern, int from) {
        StringBuilder ups = new StringBuilder();
        for (int i = 0; i < TICKS; i++) {
            ups.append(pattern >> (from + i) % 16 & 1);
        }
        return ups.toString();
    }

    private static void rounds(String name, Bus bus, int side, int channel, int pattern) {
        int what = masterSends(channel) == (side == Check.MASTER) ? 0 : 1;
        if (side == Check.MASTER) {
            bus.master(0, channel, pattern);
        } else {
            bus.slave(0, channel, pattern);
        }
        int from = bus.told(0);
        String up = ups(bus, side, channel, what);
        CHECK.due(name + " with pattern " + pattern, up, wanted(pattern, from));
    }

    private static Bus busWith(int count, int how) {
        Bus bus = new Bus(1, 1, 8);
        for (int i = 0; i < count; i++) {
            bus.request(0, how, 64 * i, i, i);
        }
        return bus;
    }

    private static void masterPatternsGoRound(int bit) {
        int pattern = 1 << bit;
        rounds("AW", busWith(8, Check.WRITE + ONE), Check.MASTER, Check.AW, pattern);
        rounds("AR", busWith(8, ONE), Check.MASTER, Check.AR, pattern);
        Bus early = busWith(1, Check.WRITE + Check.how(16, 0, Check.GROWING));
        early.early(0, true);
        rounds("W", early, Check.MASTER, Check.W, pattern);
        for (int channel : new int[] {Check.B, Check.R}) {
            rounds("READY", new Bus(1, 1, 8), Check.MASTER, channel, pattern);
            rounds("READY of all but one", new Bus(1, 1, 8), Check.MASTER, channel, 65535 - pattern);
        }
    }

    private static void slavePatternsGoRound(int bit) {
        int pattern = 1 << bit;
        for (int channel : new int[] {Check.AW, Check.AR}) {
            rounds("READY", new Bus(1, 1, 8), Check.SLAVE, channel, pattern);
            rounds("READY of all but one", new Bus(1, 1, 8), Check.SLAVE, channel, 65535 - pattern);
        }
        Bus lacking = busWith(1, Check.WRITE + ONE);
        lacking.master(0, Check.W, 0);
        lacking.tick(2);
        rounds("W", lacking, Check.SLAVE, Check.W, pattern);
        Bus writes = busWith(4, Check.WRITE + ONE);
        writes.slave(0, Check.B, 0);
        writes.tick(20);
        rounds("B", writes, Check.SLAVE, Check.B, pattern);
        Bus reads = busWith(4, ONE);
        reads.slave(0, Check.R, 0);
        reads.tick(20);
        rounds("R", reads, Check.SLAVE, Check.R, pattern);
    }

    private static void patternFarOn() {
        Bus bus = new Bus(1, 1, 1);
        for (int i = 0; i < 33; i++) {
            bus.tick(100);
        }
        CHECK.due("TIME", bus.told(0), 3300);
        rounds("far on", bus, Check.MASTER, Check.R, 1 << 15 | 1 << 4);
    }

    private static void emptyPatterns() {
        for (int channel = 0; channel < 5; channel++) {
            Bus bus = new Bus(1, 1, 8);
            bus.master(0, channel, 0);
            bus.request(0, ONE, 0, 0, 0);
            bus.request(0, Check.WRITE + ONE, 0, 0, 0);
            bus.tick(100);
            CHECK.due("no bit for master's channel " + channel, bus.port(Check.MASTER, 0, channel), 0);
            CHECK.due("one is not done", bus.told(2), 1);
            Bus other = new Bus(1, 1, 8);
            other.slave(0, channel, 0);
            other.request(0, ONE, 0, 0, 0);
            other.request(0, Check.WRITE + ONE, 0, 0, 0);
            other.tick(100);
            CHECK.due("no bit for slave's channel " + channel, other.port(Check.SLAVE, 0, channel), 0);
            CHECK.due("one is not done", other.told(2), 1);
        }
    }

    /** Patterns become the lowest 16 bits of any number. */
    private static void lowestBits() {
        int[] given = {0, 1, 32768, 65535, 65536, 65537, -1, -65536, Integer.MIN_VALUE, Integer.MAX_VALUE, 0x12348001};
        int[] kept = {0, 1, 32768, 65535, 0, 1, 65535, 0, 0, 65535, 0x8001};
        for (int channel = 0; channel < 5; channel++) {
            Bus bus = new Bus(1, 1, 1);
            int master = 65535;
            for (int i = 0; i < given.length; i++) {
                CHECK.due("master's pattern before " + given[i], bus.master(0, channel, given[i]), master);
                CHECK.due("slave's pattern before " + given[i], bus.slave(0, channel, given[i]), master);
                master = kept[i];
            }
            CHECK.due("master's last pattern", bus.master(0, channel, 0), master);
            CHECK.due("slave's last pattern", bus.slave(0, channel, 0), master);
        }
    }

    private static boolean masterSends(int channel) {
        return channel == Check.AW || channel == Check.W || channel == Check.AR;
    }

    /** Much to do on all channels, and one that nobody takes. */
    private static Bus stuck(int side, int channel) {
        Bus bus = new Bus(1, 1, 8);
        bus.way(0, 0, 1);
        if (masterSends(channel)) {
            bus.slave(0, channel, 0);
        } else {
            bus.master(0, channel, 0);
        }
        for (int i = 0; i < 6; i++) {
            bus.request(0, Check.how(3, 3, Check.GROWING), 64 * i, i, i);
            bus.request(0, Check.WRITE + Check.how(3, 3, Check.GROWING), 64 * i, i, i);
        }
        bus.tick(48);
        CHECK.due("VALID on " + channel, bus.wire(side, 0, channel, 0), 1);
        CHECK.due("not READY on " + channel, bus.wire(side, 0, channel, 1), 0);
        return bus;
    }

    private static void stays(Bus bus, int side, int channel) {
        long content = bus.content(side, 0, channel);
        int rest = bus.wire(side, 0, channel, 2);
        int before = bus.port(side, 0, channel);
        for (int i = 0; i < 20; i++) {
            bus.tick(1);
            CHECK.due("VALID stays on " + channel, bus.wire(side, 0, channel, 0), 1);
            CHECK.due("CONTENT stays on " + channel, bus.content(side, 0, channel), content);
            CHECK.due("REST stays on " + channel, bus.wire(side, 0, channel, 2), rest);
        }
        CHECK.due("not transferred on " + channel, bus.port(side, 0, channel), before);
        if (masterSends(channel)) {
            bus.slave(0, channel, 65535);
        } else {
            bus.master(0, channel, 65535);
        }
        while (bus.port(side, 0, channel) == before) {
            bus.tick(1);
            CHECK.due("CONTENT of the transfer on " + channel, bus.content(side, 0, channel), content);
            CHECK.due("REST of the transfer on " + channel, bus.wire(side, 0, channel, 2), rest);
        }
    }

    /** What a master or a row gives stays while it is held, whatever is set meanwhile. */
    private static void heldAtTheMaster(int channel) {
        Bus bus = stuck(Check.MASTER, channel);
        if (masterSends(channel)) {
            bus.master(0, channel, 0);
            bus.early(0, true);
        }
        bus.policy(2, true);
        stays(bus, Check.MASTER, channel);
    }

    private static void heldAtTheSlave(int channel) {
        Bus bus = stuck(Check.SLAVE, channel);
        if (!masterSends(channel)) {
            bus.slave(0, channel, 0);
        }
        bus.way(0, 15, 0);
        stays(bus, Check.SLAVE, channel);
    }

    /** 512 calls are promised, with up to 1000 ticks each. */
    private static void lastPromisedCall() {
        Bus bus = new Bus(1, 1, 1);
        bus.master(0, Check.AR, 0);
        bus.request(0, ONE, 0, 0, 0);
        while (bus.callsLeft() > 5) {
            CHECK.due("never done", bus.drain(1000), -1);
        }
        bus.master(0, Check.AR, 65535);
        CHECK.due("done in the end", bus.drain(1000), 4);
        CHECK.due("when it was requested", bus.ticket(0, 2), 0);
        CHECK.due("when it was done", bus.ticket(0, 4), 505003);
        CHECK.due("TIME, by the 512th call", bus.told(0), 505004);
        CHECK.due("no call is left", bus.callsLeft(), 0);
    }

    private static void toldBounds() {
        Bus bus = new Bus(2, 3, 5);
        bus.tick(7);
        bus.request(1, ONE, 0, 0, 0);
        int[] want = {7, 1, 1, 2, 3, 5, 1};
        for (int what = 0; what < 7; what++) {
            CHECK.due("told " + what, bus.told(what), want[what]);
        }
        for (int what : new int[] {-1, 7, 8, Integer.MIN_VALUE, Integer.MAX_VALUE}) {
            CHECK.due("told another what, " + what, bus.told(what), BusCrossbar.NONE);
        }
    }
}
