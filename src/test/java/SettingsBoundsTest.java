/** Promises 1 to 10: the least and the greatest of all that is set, and what is next to it. */
final class SettingsBoundsTest {
    private static final Check CHECK = new Check();
    private static final int LEAST = Integer.MIN_VALUE;
    private static final int MOST = Integer.MAX_VALUE;
    private static final int ONE = Check.how(1, 0, Check.GROWING);

    public static void main(String[] args) {
        nearestCounts();
        nearestLimits();
        firstPages();
        mapBounds();
        mapTillDone();
        policyBounds();
        wholeBounds();
        earlyOfEachMaster();
        wayBounds();
        spoilBounds();
        spoilOfEachByte();
        spoilAndItsNeighbours();
        pokeBounds();
        bytesOfTheirOwn();
        spoiltBytesOfTheirOwn();
        CHECK.end();
    }

    private static int nearest(int number, int most) {
        if (number < 1) {
            return 1;
        }
        return number > most ? most : number;
    }

    private static void nearestCounts() {
        int[] numbers = {LEAST, -1, 0, 1, 2, 3, 4, 5, 6, MOST};
        for (int masters : numbers) {
            for (int slaves : numbers) {
                Bus bus = new Bus(masters, slaves, 1);
                CHECK.due("masters " + masters, bus.told(3), nearest(masters, 4));
                CHECK.due("slaves " + slaves, bus.told(4), nearest(slaves, 4));
                CHECK.due("the last master", bus.master(nearest(masters, 4) - 1, 4, 0), 65535);
                CHECK.due("the last slave", bus.slave(nearest(slaves, 4) - 1, 4, 0), 65535);
                CHECK.noIndex("no master behind it", () -> bus.master(nearest(masters, 4), 4, 0));
                CHECK.noIndex("no slave behind it", () -> bus.slave(nearest(slaves, 4), 4, 0));
            }
        }
    }

    private static void nearestLimits() {
        for (int limit : new int[] {LEAST, -1, 0, 1, 2, 3, 4, 5, 6, 7, 8, 9, 10, MOST}) {
            CHECK.due("limit " + limit, new Bus(1, 1, limit).told(5), nearest(limit, 8));
        }
    }

    private static void firstPages() {
        for (int slaves = 1; slaves <= 4; slaves++) {
            Bus bus = new Bus(1, slaves, 1);
            for (int page = 0; page < 16; page++) {
                CHECK.due("page " + page + " of " + slaves, bus.map(page, -1), page % slaves);
            }
        }
    }

    private static void mapBounds() {
        Bus bus = new Bus(1, 4, 1);
        for (int page : new int[] {0, 15}) {
            bus.map(page, 0);
            CHECK.due("the last slave", bus.map(page, 3), 0);
            CHECK.due("the DEFAULT target", bus.map(page, BusCrossbar.NONE), 3);
            CHECK.due("it was the DEFAULT one's", bus.map(page, BusCrossbar.NONE), BusCrossbar.NONE);
            CHECK.due("and still is", bus.map(page, 0), BusCrossbar.NONE);
            CHECK.noIndex("slave 4", () -> bus.map(page, 4));
            CHECK.noIndex("slave -2", () -> bus.map(page, -2));
            CHECK.due("as it was", bus.map(page, 1), 0);
        }
        CHECK.due("a page beside", bus.map(1, 0), 1);
        CHECK.due("a page before the last", bus.map(14, 0), 2);
        CHECK.noIndex("page -1", () -> bus.map(-1, 0));
        CHECK.noIndex("page 16", () -> bus.map(16, 0));
    }

    /** A page is free from the tick on in which the last request is done. */
    private static void mapTillDone() {
        for (int sort : new int[] {0, Check.WRITE}) {
            Bus bus = new Bus(1, 2, 1);
            bus.request(0, sort + ONE, 0, 0, 0);
            int ticks = sort == 0 ? 4 : 5;
            for (int i = 0; i < ticks; i++) {
                CHECK.badState("map before tick " + i, () -> bus.map(5, 0));
                CHECK.badState("forget before tick " + i, () -> bus.forget());
                bus.tick(1);
            }
            CHECK.due("map when it is done", bus.map(5, 0), 1);
            CHECK.due("forget when it is done", bus.forget(), 1);
        }
    }

    private static void policyBounds() {
        Bus bus = new Bus(1, 1, 1);
        int before = 1;
        for (int policy : new int[] {0, 3, 0, 1, 2, 3}) {
            CHECK.due("policy before " + policy, bus.policy(policy, false), before);
            CHECK.due("policy " + policy, bus.told(6), policy);
            before = policy;
        }
        CHECK.badNumber("policy -1", () -> bus.policy(-1, false));
        CHECK.badNumber("policy 4", () -> bus.policy(4, false));
        CHECK.due("as it was", bus.policy(1, true), 3);
    }

    /** Two reads of two beats wait at two slaves; a policy that is refused does not make it WHOLE. */
    private static void wholeBounds() {
        for (int whole = 0; whole < 2; whole++) {
            Bus bus = new Bus(1, 2, 8);
            bus.slave(0, Check.R, 0);
            bus.slave(1, Check.R, 0);
            bus.request(0, Check.how(2, 0, Check.GROWING), 0, 1, 0);
            bus.request(0, Check.how(2, 0, Check.GROWING), 4096, 2, 0);
            bus.tick(20);
            bus.policy(1, whole == 1);
            boolean other = whole == 0;
            CHECK.badNumber("policy 4, the other way", () -> bus.policy(4, other));
            bus.slave(0, Check.R, 65535);
            bus.slave(1, Check.R, 65535);
            StringBuilder order = new StringBuilder();
            for (int i = 0; i < 12; i++) {
                bus.tick(1);
                if (bus.wire(Check.MASTER, 0, Check.R, 0) == 1) {
                    order.append(bus.wire(Check.MASTER, 0, Check.R, 2) % 64);
                }
            }
            CHECK.due("whole " + whole, order.toString(), whole == 1 ? "1122" : "1212");
        }
    }

    private static void earlyOfEachMaster() {
        for (int early = 0; early < 4; early++) {
            Bus bus = new Bus(4, 1, 1);
            CHECK.due("not at first", bus.early(early, true), false);
            for (int m = 0; m < 4; m++) {
                bus.request(m, Check.WRITE + ONE, 0, 0, 0);
            }
            bus.tick(1);
            for (int m = 0; m < 4; m++) {
                CHECK.due("W of " + m + " at once", bus.wire(Check.MASTER, m, Check.W, 0), m == early ? 1 : 0);
                CHECK.due("early " + m, bus.early(m, false), m == early);
            }
        }
    }

    private static void wayBounds() {
        for (int slave = 0; slave < 4; slave++) {
            Bus bus = new Bus(1, 4, 1);
            int before = 0;
            for (int delay = 0; delay <= 15; delay++) {
                for (int way = 0; way <= 2; way++) {
                    CHECK.due("way before", bus.way(slave, delay, way), before);
                    before = 16 * way + delay;
                }
            }
            int last = slave;
            CHECK.badNumber("delay 16", () -> bus.way(last, 16, 0));
            CHECK.badNumber("delay -1", () -> bus.way(last, -1, 0));
            CHECK.badNumber("way 3", () -> bus.way(last, 0, 3));
            CHECK.badNumber("way -1", () -> bus.way(last, 0, -1));
            CHECK.due("as it was", bus.way(slave, 0, 0), 47);
            for (int other = 0; other < 4; other++) {
                CHECK.due("the others as at first", bus.way(other, 0, 0), 0);
            }
        }
    }

    private static void spoilBounds() {
        Bus bus = new Bus(1, 1, 1);
        CHECK.due("all there are", bus.spoil(0, 65536, true), 65536);
        CHECK.due("none is new", bus.spoil(0, 65536, true), 0);
        CHECK.due("one less than all", bus.spoil(0, 65535, false), 65535);
        CHECK.due("the last one", bus.spoil(65535, 1, false), 1);
        CHECK.due("more than there are", bus.spoil(0, 65537, true), 65536);
        CHECK.due("the greatest n", bus.spoil(0, MOST, false), 65536);
        CHECK.due("the last one and more", bus.spoil(65535, 2, true), 1);
        CHECK.due("up to the last", bus.spoil(65534, 2, true), 1);
        CHECK.due("the greatest n at the last address", bus.spoil(65535, MOST, false), 1);
        CHECK.due("the greatest n at another one", bus.spoil(1, MOST, true), 65534);
        CHECK.due("address 0 is left", bus.spoil(0, 1, true), 1);
        CHECK.badNumber("n 0", () -> bus.spoil(0, 0, false));
        CHECK.badNumber("n -1", () -> bus.spoil(0, -1, false));
        CHECK.due("all of them still", bus.spoil(0, 65536, false), 65536);
    }

    /** One byte at a time over a border of 64, on and off. */
    private static void spoilOfEachByte() {
        Bus bus = new Bus(1, 1, 1);
        for (int a = 56; a < 136; a++) {
            CHECK.due("new " + a, bus.spoil(a, 1, true), 1);
            CHECK.due("not new " + a, bus.spoil(a, 1, true), 0);
        }
        CHECK.due("eighty in all", bus.spoil(0, 65536, false), 80);
    }

    private static void spoilAndItsNeighbours() {
        int[][] ranges = {{0, 1}, {7, 2}, {63, 1}, {63, 2}, {64, 64}, {100, 300}, {4095, 2}, {65472, 64}, {65535, 1}};
        for (int[] range : ranges) {
            Bus bus = new Bus(1, 1, 1);
            int end = range[0] + range[1];
            CHECK.due("all new", bus.spoil(range[0], range[1], true), range[1]);
            if (range[0] > 0) {
                CHECK.due("the byte before", bus.spoil(range[0] - 1, 1, true), 1);
            }
            if (end < 65536) {
                CHECK.due("the byte behind", bus.spoil(end, 1, true), 1);
            }
            CHECK.due("the first one", bus.spoil(range[0], 1, true), 0);
            CHECK.due("the last one", bus.spoil(end - 1, 1, true), 0);
            CHECK.due("off again", bus.spoil(range[0], range[1], false), range[1]);
            int beside = (range[0] > 0 ? 1 : 0) + (end < 65536 ? 1 : 0);
            CHECK.due("those beside stay", bus.spoil(0, 65536, false), beside);
        }
    }

    private static void pokeBounds() {
        Bus bus = new Bus(1, 1, 1);
        for (int a : new int[] {0, 1, 65534, 65535}) {
            CHECK.due("0 at first", bus.peek(a), 0);
            CHECK.due("poke of 255", bus.poke(a, 255), 0);
            CHECK.due("255", bus.peek(a), 255);
            CHECK.badNumber("poke of 256", () -> bus.poke(a, 256));
            CHECK.badNumber("poke of -1", () -> bus.poke(a, -1));
            CHECK.due("poke of 0", bus.poke(a, 0), 255);
            CHECK.due("0 again", bus.peek(a), 0);
            CHECK.due("poke of 128", bus.poke(a, 128), 0);
            CHECK.due("128, not less than 0", bus.peek(a), 128);
        }
        CHECK.noIndex("peek 65536", () -> bus.peek(65536));
        CHECK.noIndex("peek -1", () -> bus.peek(-1));
        CHECK.noIndex("poke at 65536", () -> bus.poke(65536, 0));
        CHECK.noIndex("poke at -1", () -> bus.poke(-1, 0));
    }

    /** Each address has a byte of its own: none shares one with an address of which one bit differs. */
    private static void bytesOfTheirOwn() {
        for (int a : new int[] {0, 0x5A5A, 65535}) {
            Bus bus = new Bus(1, 1, 1);
            for (int bit = 0; bit < 16; bit++) {
                bus.poke(a ^ 1 << bit, 100 + bit);
            }
            bus.poke(a, 1);
            for (int bit = 0; bit < 16; bit++) {
                CHECK.due("byte beside " + a, bus.peek(a ^ 1 << bit), 100 + bit);
            }
            CHECK.due("byte " + a, bus.peek(a), 1);
        }
    }

    private static void spoiltBytesOfTheirOwn() {
        for (int a : new int[] {0, 0x5A5A, 65535}) {
            Bus bus = new Bus(1, 1, 8);
            bus.spoil(a, 1, true);
            for (int bit = 0; bit < 16; bit++) {
                int read = bus.request(0, ONE, a ^ 1 << bit, 0, 0);
                bus.drain(50);
                CHECK.due("read beside " + a, bus.ticket(read, 1), 0);
                int write = bus.request(0, Check.WRITE + ONE, a ^ 1 << bit, 0, 0);
                bus.drain(50);
                CHECK.due("write beside " + a, bus.ticket(write, 1), 0);
            }
            int read = bus.request(0, ONE, a, 0, 0);
            bus.drain(50);
            CHECK.due("read of " + a, bus.ticket(read, 1), 2);
        }
    }
}
