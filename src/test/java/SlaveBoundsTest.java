/** Section 5 and promises 7, 8 and 21: four at once, ripe to the tick, spoilt bytes and rights to the byte. */
final class SlaveBoundsTest {
    private static final Check CHECK = new Check();
    private static final int ONE = Check.how(1, 0, Check.GROWING);
    private static final int ALL = 65535;

    public static void main(String[] args) {
        fourWritesAtOnce();
        fourReadsAtOnce();
        readyForBeats();
        for (int delay = 0; delay <= 15; delay++) {
            ripeToTheTick(delay);
        }
        delayThatChanges();
        lastOfThoseThatAreRipe();
        roundOfReads();
        firstOfThoseThatBegan();
        writeBeforeRead();
        writtenWithTheLastBeat();
        spoiltBytesOfReads();
        spoiltBytesOfWrites();
        spoiltBytesWithoutStrobe();
        ends();
        for (int size = 0; size < 4; size++) {
            for (int length = 1; length <= 16; length *= 2) {
                bytesOfARight(length, size);
                justTheBytes(length, size);
            }
        }
        leastAndGreatestRight();
        rightsWithoutStrobes();
        rightTakenInAnyCase();
        rightOfTheLatestRead();
        whatLeavesRights();
        CHECK.end();
    }

    private static String wires(Bus bus, int ticks, int channel, int what) {
        StringBuilder seen = new StringBuilder();
        for (int i = 0; i < ticks; i++) {
            bus.tick(1);
            seen.append(bus.wire(Check.SLAVE, 0, channel, what));
        }
        return seen.toString();
    }

    private static int run(Bus bus, int master, int how, int address, int id) {
        int ticket = bus.request(master, how, address, id, 99);
        CHECK.due("it is done", bus.drain(300) > 0, true);
        return ticket;
    }

    private static void fourWritesAtOnce() {
        Bus bus = new Bus(1, 1, 8);
        bus.slave(0, Check.B, 0);
        for (int i = 0; i < 8; i++) {
            bus.request(0, Check.WRITE + ONE, 0, i, 0);
        }
        for (int i = 0; i < 6; i++) {
            CHECK.due("AW's READY with " + Math.max(0, i - 1), wires(bus, 1, Check.AW, 1), i < 5 ? "1" : "0");
            CHECK.due("writes at once", bus.target(0, 2), Math.min(i, 4));
        }
        bus.slave(0, Check.B, 1 << 10);
        bus.tick(4);
        CHECK.due("one goes in tick 10, one comes in tick 11", wires(bus, 4, Check.AW, 1), "0100");
        CHECK.due("four again", bus.target(0, 2), 4);
    }

    /** A read goes with its LAST beat alone. */
    private static void fourReadsAtOnce() {
        Bus bus = new Bus(1, 1, 8);
        bus.slave(0, Check.R, 0);
        for (int i = 0; i < 8; i++) {
            bus.request(0, Check.how(2, 0, Check.GROWING), 0, i, 0);
        }
        for (int i = 0; i < 6; i++) {
            CHECK.due("AR's READY with " + Math.max(0, i - 1), wires(bus, 1, Check.AR, 1), i < 5 ? "1" : "0");
            CHECK.due("reads at once", bus.target(0, 3), Math.min(i, 4));
        }
        bus.slave(0, Check.R, 1 << 10 | 1 << 13);
        bus.tick(4);
        CHECK.due("beats in ticks 10 and 13", wires(bus, 6, Check.AR, 1), "000010");
        CHECK.due("four again", bus.target(0, 3), 4);
    }

    private static void readyForBeats() {
        for (int length : new int[] {1, 16}) {
            Bus bus = new Bus(1, 1, 8);
            bus.slave(0, Check.B, 0);
            CHECK.due("no write", wires(bus, 2, Check.W, 1), "00");
            bus.request(0, Check.WRITE + Check.how(length, 0, Check.GROWING), 0, 0, 0);
            CHECK.due("till the write came", wires(bus, 2, Check.W, 1), "00");
            String lacking = "1".repeat(length);
            CHECK.due("till its last beat came", wires(bus, length + 2, Check.W, 1), lacking + "00");
        }
    }

    /** The read comes in tick 1, the write is complete in tick 2. */
    private static void ripeToTheTick(int delay) {
        for (int way = 0; way < 3; way++) {
            Bus bus = new Bus(1, 1, 8);
            bus.way(0, delay, way);
            bus.request(0, ONE, 0, 0, 0);
            CHECK.due("R with delay " + delay, wires(bus, delay + 4, Check.R, 0), "0".repeat(delay + 2) + "10");
            Bus writes = new Bus(1, 1, 8);
            writes.way(0, delay, way);
            writes.request(0, Check.WRITE + ONE, 0, 0, 0);
            CHECK.due("B with delay " + delay, wires(writes, delay + 5, Check.B, 0), "0".repeat(delay + 3) + "10");
        }
    }

    private static void delayThatChanges() {
        Bus sooner = new Bus(1, 1, 8);
        sooner.way(0, 15, 0);
        sooner.request(0, ONE, 0, 0, 0);
        CHECK.due("not ripe by 15", wires(sooner, 8, Check.R, 0), "00000000");
        sooner.way(0, 6, 0);
        CHECK.due("ripe at once by 6", wires(sooner, 1, Check.R, 0), "1");
        Bus later = new Bus(1, 1, 8);
        later.request(0, ONE, 0, 0, 0);
        later.tick(2);
        later.way(0, 4, 0);
        CHECK.due("not before tick 6", wires(later, 5, Check.R, 0), "00001");
    }

    /** Reads come in ticks 1 and 2; R opens when just one of them is ripe, or both. */
    private static void lastOfThoseThatAreRipe() {
        for (int opened = 7; opened <= 9; opened++) {
            for (int way = 0; way < 3; way++) {
                Bus bus = new Bus(1, 1, 8);
                bus.way(0, 5, way);
                bus.slave(0, Check.R, 1 << opened);
                bus.request(0, ONE, 0, 1, 0);
                bus.request(0, ONE, 0, 2, 0);
                bus.tick(opened + 1);
                int want = way == 1 && opened > 7 ? 2 : 1;
                CHECK.due("way " + way + " in tick " + opened, bus.wire(Check.SLAVE, 0, Check.R, 2), want + 256);
            }
        }
    }

    /** From the last one round to the first; but one that was ripe by then is behind the last one. */
    private static void roundOfReads() {
        CHECK.due("the fourth is ripe in time", roundOfReads(1), "1234123400");
        CHECK.due("the fourth is too late", roundOfReads(2), "1231234400");
    }

    private static String roundOfReads(int tickOfTheFourth) {
        Bus bus = new Bus(1, 1, 8);
        bus.way(0, 0, 2);
        bus.slave(0, Check.R, 0);
        for (int id = 1; id <= 3; id++) {
            bus.request(0, Check.how(2, 0, Check.GROWING), 0, id, 0);
        }
        bus.tick(10);
        bus.slave(0, Check.R, ALL);
        StringBuilder order = new StringBuilder();
        for (int i = 0; i < 10; i++) {
            if (i == tickOfTheFourth) {
                bus.request(0, Check.how(2, 0, Check.GROWING), 0, 4, 0);
            }
            bus.tick(1);
            order.append(bus.wire(Check.SLAVE, 0, Check.R, 2) % 64);
        }
        return order.toString();
    }

    /** Some of three reads began by WAY 2: by WAY 1 the first of these goes on, behind them the last one. */
    private static void firstOfThoseThatBegan() {
        String[] want = {"33332222111100", "11113333222200", "12111222333300", "12311122233300", "12312311223300"};
        int[] begun = {0, 1, 2, 3, 6};
        for (int i = 0; i < begun.length; i++) {
            CHECK.due(begun[i] + " beats by WAY 2", orderAfter(begun[i]), want[i]);
        }
    }

    private static String orderAfter(int beatsByWay2) {
        Bus bus = new Bus(1, 1, 8);
        bus.slave(0, Check.R, 0);
        for (int id = 1; id <= 3; id++) {
            bus.request(0, Check.how(4, 0, Check.GROWING), 0, id, 0);
        }
        bus.tick(10);
        bus.slave(0, Check.R, ALL);
        StringBuilder order = new StringBuilder();
        for (int i = 0; i < 14; i++) {
            bus.way(0, 0, i < beatsByWay2 ? 2 : 1);
            bus.tick(1);
            order.append(bus.wire(Check.SLAVE, 0, Check.R, 2) % 64);
        }
        return order.toString();
    }

    /** In one tick the port's W goes over before its AR. */
    private static void writeBeforeRead() {
        for (int wait = 0; wait < 3; wait++) {
            Bus bus = new Bus(2, 1, 8);
            int write = 0;
            int read = 0;
            for (int time = 0; time < 3; time++) {
                if (time == 1) {
                    write = bus.request(0, Check.WRITE + ONE, 0, 0, 7);
                }
                if (time == wait) {
                    read = bus.request(1, ONE, 0, 0, 0);
                }
                bus.tick(1);
            }
            bus.drain(50);
            long want = wait == 2 ? bus.data(write, 0) : 0;
            CHECK.due("a read that came in tick " + (wait + 1) + " of 3", bus.data(read, 0), want);
        }
    }

    private static void writtenWithTheLastBeat() {
        for (int length : new int[] {2, 16}) {
            Bus bus = new Bus(1, 1, 8);
            bus.request(0, Check.WRITE + Check.how(length, 3, Check.GROWING), 0, 0, 7);
            bus.tick(length + 1);
            CHECK.due("all beats but one came", bus.port(Check.SLAVE, 0, Check.W), length - 1);
            for (int a = 0; a < 8 * length; a += 8) {
                CHECK.due("nothing is written", bus.peek(a), 0);
            }
            bus.tick(1);
            for (int k = 0; k < length; k++) {
                int want = Check.laneByte(Check.seedAfter(7, k + 1), 8 * k);
                CHECK.due("beat " + k + " is written", bus.peek(8 * k), want);
            }
        }
    }

    /** Beat 0 is 2^z bytes or fewer from the start on; beat 1 is the 2^z bytes behind. */
    private static void spoiltBytesOfReads() {
        for (int size = 0; size < 4; size++) {
            int n = 1 << size;
            for (int start = 64; start < 64 + n; start++) {
                for (int spoilt = 62; spoilt < 66 + 2 * n; spoilt++) {
                    Bus bus = new Bus(1, 1, 8);
                    for (int a = 62; a < 66 + 2 * n; a++) {
                        bus.poke(a, 255);
                    }
                    bus.spoil(spoilt, 1, true);
                    int read = run(bus, 0, Check.how(2, size, Check.GROWING), start, 0);
                    boolean first = spoilt >= start && spoilt < 64 + n;
                    boolean second = spoilt >= 64 + n && spoilt < 64 + 2 * n;
                    String name = "size " + size + " from " + start + ", spoilt " + spoilt;
                    CHECK.due("response, " + name, bus.ticket(read, 1), first || second ? 2 : 0);
                    CHECK.due("beat 0 is 0, " + name, bus.data(read, 0) == 0, first);
                    CHECK.due("beat 1 is 0, " + name, bus.data(read, 1) == 0, second);
                }
            }
        }
    }

    private static void spoiltBytesOfWrites() {
        for (int size = 0; size < 4; size++) {
            int n = 1 << size;
            for (int spoilt = 62; spoilt < 66 + 2 * n; spoilt++) {
                Bus bus = new Bus(1, 1, 8);
                bus.spoil(spoilt, 1, true);
                int start = 64 + n - 1;
                int write = run(bus, 0, Check.WRITE + Check.how(2, size, Check.GROWING), start, 0);
                boolean met = spoilt >= start && spoilt < 64 + 2 * n;
                String name = "size " + size + ", spoilt " + spoilt;
                CHECK.due("response, " + name, bus.ticket(write, 1), met ? 2 : 0);
                for (int a = 62; a < 66 + 2 * n; a++) {
                    boolean written = !met && a >= start && a < 64 + 2 * n;
                    int beat = a == start ? 1 : 2;
                    int want = written ? Check.laneByte(Check.seedAfter(99, beat), a) : 0;
                    CHECK.due("byte " + a + ", " + name, bus.peek(a), want);
                }
            }
        }
    }

    /** A seed whose first beat has, or has not, a strobe of lane 0. */
    private static long seedWith(boolean strobe) {
        long seed = 0;
        while ((Check.seedAfter(seed, 1) >>> 56 & 1) == 1 != strobe) {
            seed++;
        }
        return seed;
    }

    private static void spoiltBytesWithoutStrobe() {
        for (int strobe = 0; strobe < 2; strobe++) {
            Bus bus = new Bus(1, 1, 8);
            bus.spoil(8, 1, true);
            bus.poke(8, 77);
            int write = bus.request(0, Check.WRITE + Check.SPARSE + ONE, 8, 0, seedWith(strobe == 1));
            bus.drain(50);
            CHECK.due("a spoilt byte, strobe " + strobe, bus.ticket(write, 1), 2 * strobe);
            CHECK.due("its byte stays", bus.peek(8), 77);
            bus.spoil(8, 1, false);
            write = bus.request(0, Check.WRITE + Check.SPARSE + ONE, 8, 0, seedWith(strobe == 1));
            bus.drain(50);
            CHECK.due("not spoilt, strobe " + strobe, bus.ticket(write, 1), 0);
            int written = Check.laneByte(Check.seedAfter(seedWith(true), 1), 8);
            CHECK.due("its byte, strobe " + strobe, bus.peek(8), strobe == 1 ? written : 77);
        }
    }

    /** The first and the last address of all. */
    private static void ends() {
        for (int address : new int[] {0, 65535}) {
            Bus bus = new Bus(1, 1, 8);
            run(bus, 0, Check.WRITE + ONE, address, 0);
            CHECK.due("written", bus.peek(address), Check.laneByte(Check.seedAfter(99, 1), address));
            bus.spoil(address, 1, true);
            int read = run(bus, 0, Check.how(1, 3, Check.FIXED), address, 0);
            CHECK.due("spoilt", bus.ticket(read, 1), 2);
            bus.spoil(address, 1, false);
            read = run(bus, 0, ONE, address, 0);
            CHECK.due("read", Check.laneByte(bus.data(read, 0), address), bus.peek(address));
        }
    }

    private static int exclusive(int length, int size) {
        return Check.how(length, size, Check.GROWING) + Check.EXCLUSIVE;
    }

    /** A write next to the bytes of a right leaves it, a write of the first or last one takes it. */
    private static void bytesOfARight(int length, int size) {
        int bytes = length << size;
        int[] written = {512 - 1, 512, 512 + bytes - 1, 512 + bytes};
        for (int i = 0; i < 4; i++) {
            Bus bus = new Bus(2, 1, 8);
            run(bus, 0, exclusive(length, size), 512, 3);
            CHECK.due("its least address", bus.right(0, 3), 512);
            run(bus, 1, Check.WRITE + ONE, written[i], 3);
            boolean stays = i == 0 || i == 3;
            CHECK.due("right for " + bytes + " behind " + written[i], bus.right(0, 3), stays ? 512 : -1);
            int write = run(bus, 0, Check.WRITE + exclusive(length, size), 512, 3);
            CHECK.due("the exclusive write's response", bus.ticket(write, 1), stays ? 1 : 0);
        }
    }

    private static void justTheBytes(int length, int size) {
        int bytes = length << size;
        int[][] others = {{512, 2 * bytes}, {512, bytes / 2}, {512 + bytes, bytes}, {512 - bytes, bytes}};
        for (int[] other : others) {
            if (other[1] >= 1 && other[1] <= 128) {
                Bus bus = new Bus(1, 1, 8);
                run(bus, 0, exclusive(length, size), 512, 3);
                int each = other[1] > 16 ? 3 : 0;
                int write = run(bus, 0, Check.WRITE + exclusive(other[1] >> each, each), other[0], 3);
                CHECK.due("right for " + bytes + ", write of " + other[1], bus.ticket(write, 1), 0);
                CHECK.due("nothing is written", bus.peek(other[0]), 0);
            }
        }
        Bus same = new Bus(1, 1, 8);
        run(same, 0, exclusive(length, size), 512, 3);
        int each = bytes > 16 ? 3 : 0;
        int write = run(same, 0, Check.WRITE + exclusive(bytes >> each, each), 512, 3);
        CHECK.due("the same " + bytes + " bytes", same.ticket(write, 1), 1);
        CHECK.due("written", same.peek(512), Check.laneByte(Check.seedAfter(99, 1), 512));
    }

    private static void leastAndGreatestRight() {
        Bus bus = new Bus(4, 4, 8);
        for (int i = 0; i < 64; i++) {
            CHECK.due("none at first", bus.right(3, i), BusCrossbar.NONE);
        }
        run(bus, 0, exclusive(1, 0), 0, 0);
        CHECK.due("address 0 of ID 0", bus.right(0, 0), 0);
        run(bus, 3, exclusive(1, 0), 65535, 15);
        CHECK.due("address 65535 of ID 63", bus.right(3, 63), 65535);
        run(bus, 3, exclusive(16, 3), 65408, 15);
        CHECK.due("the last 128 of ID 63", bus.right(3, 63), 65408);
        CHECK.due("none of ID 62", bus.right(3, 62), -1);
        CHECK.due("none of ID 1", bus.right(0, 1), -1);
        CHECK.badNumber("ID 64", () -> bus.right(3, 64));
        CHECK.badNumber("ID -1", () -> bus.right(3, -1));
        CHECK.noIndex("slave 4", () -> bus.right(4, 63));
        int write = run(bus, 3, Check.WRITE + exclusive(16, 3), 65408, 15);
        CHECK.due("written with it", bus.ticket(write, 1), 1);
        CHECK.due("up to the last byte", bus.peek(65535), Check.laneByte(Check.seedAfter(99, 16), 7));
        CHECK.due("it is taken", bus.right(3, 63), -1);
    }

    private static void rightsWithoutStrobes() {
        Bus bus = new Bus(2, 1, 8);
        run(bus, 0, exclusive(1, 0), 8, 1);
        run(bus, 1, exclusive(1, 0), 8, 1);
        bus.request(1, Check.WRITE + Check.SPARSE + ONE, 8, 2, seedWith(false));
        bus.drain(50);
        CHECK.due("a write without strobes takes none", bus.right(0, 1), 8);
        int write = bus.request(0, Check.WRITE + Check.SPARSE + exclusive(1, 0), 8, 1, seedWith(false));
        bus.drain(50);
        CHECK.due("an exclusive one has its right", bus.ticket(write, 1), 1);
        CHECK.due("which is taken away", bus.right(0, 1), -1);
        CHECK.due("but not the other's", bus.right(0, 17), 8);
        bus.request(0, Check.WRITE + Check.SPARSE + ONE, 8, 2, seedWith(true));
        bus.drain(50);
        CHECK.due("a write with a strobe takes it", bus.right(0, 17), -1);
    }

    /** With a spoilt byte, or for other bytes: nothing is written, and its ID's right is gone. */
    private static void rightTakenInAnyCase() {
        Bus bus = new Bus(2, 1, 8);
        run(bus, 0, exclusive(1, 3), 8, 1);
        run(bus, 1, exclusive(1, 3), 8, 1);
        bus.spoil(15, 1, true);
        int write = run(bus, 0, Check.WRITE + exclusive(1, 3), 8, 1);
        CHECK.due("the slave's error", bus.ticket(write, 1), 2);
        CHECK.due("its own right is gone", bus.right(0, 1), -1);
        CHECK.due("the other's is not", bus.right(0, 17), 8);
        run(bus, 0, Check.WRITE + Check.how(1, 3, Check.GROWING), 8, 1);
        CHECK.due("nor by an error that is not exclusive", bus.right(0, 17), 8);
        bus.spoil(15, 1, false);
        write = run(bus, 0, Check.WRITE + exclusive(1, 3), 8, 1);
        CHECK.due("without the right", bus.ticket(write, 1), 0);
        CHECK.due("the other's is still there", bus.right(0, 17), 8);
        write = run(bus, 1, Check.WRITE + exclusive(1, 3), 16, 1);
        CHECK.due("for other bytes", bus.ticket(write, 1), 0);
        CHECK.due("the right is gone all the same", bus.right(0, 17), -1);
    }

    private static void rightOfTheLatestRead() {
        Bus bus = new Bus(1, 1, 8);
        run(bus, 0, exclusive(2, 3), 0, 1);
        run(bus, 0, exclusive(1, 3), 0, 1);
        int write = run(bus, 0, Check.WRITE + exclusive(2, 3), 0, 1);
        CHECK.due("the first right was replaced", bus.ticket(write, 1), 0);
        run(bus, 0, exclusive(2, 3), 0, 1);
        bus.spoil(64, 1, true);
        int read = run(bus, 0, exclusive(1, 0), 64, 1);
        CHECK.due("a spoilt read", bus.ticket(read, 1), 2);
        write = run(bus, 0, Check.WRITE + exclusive(2, 3), 0, 1);
        CHECK.due("it replaced nothing", bus.ticket(write, 1), 1);
    }

    private static void whatLeavesRights() {
        Bus bus = new Bus(2, 1, 8);
        run(bus, 0, exclusive(1, 3), 8, 1);
        bus.poke(8, 255);
        CHECK.due("behind a poke", bus.right(0, 1), 8);
        bus.spoil(8, 8, true);
        bus.spoil(8, 8, false);
        CHECK.due("behind a spoil", bus.right(0, 1), 8);
        run(bus, 1, Check.how(1, 3, Check.GROWING), 8, 1);
        run(bus, 0, Check.how(1, 3, Check.GROWING), 64, 1);
        CHECK.due("behind reads that are not exclusive", bus.right(0, 1), 8);
        CHECK.due("which give none", bus.right(0, 17), -1);
        bus.forget();
        CHECK.due("behind forget", bus.right(0, 1), 8);
        int write = run(bus, 0, Check.WRITE + exclusive(1, 3), 8, 1);
        CHECK.due("it still counts", bus.ticket(write, 1), 1);
    }
}
