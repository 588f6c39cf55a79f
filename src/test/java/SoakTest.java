import java.util.Random;

/** Long runs of calls of all sorts: what must hold for every one of them. */
final class SoakTest {
    private static final Check CHECK = new Check();
    private static final int[] EDGES = {-1, 0, 1, 2, 3, 4, 5, 6, 7, 8, 15, 16, 63, 64, 100, 101, 255, 256, 511, 512,
        1000, 1001, 4095, 4096, 32767, 32768, 65535, 65536, Integer.MIN_VALUE, Integer.MAX_VALUE};
    private static final long THROWN = Long.MIN_VALUE + 12345;
    private static final int REQUEST = 9;
    private static final int CALLS = 26;

    public static void main(String[] args) {
        for (int seed = 0; seed < 300; seed++) {
            wildCalls(seed);
        }
        for (int seed = 0; seed < 800; seed++) {
            oneMasterInOrder(seed);
        }
        for (int seed = 0; seed < 200; seed++) {
            manyMasters(seed);
        }
        CHECK.end();
    }

    /** A call that throws changes nothing: an object that is spared those answers all else alike. */
    private static void wildCalls(int seed) {
        Random random = new Random(seed);
        int masters = random.nextInt(6);
        int slaves = random.nextInt(6);
        Bus all = new Bus(masters, slaves, random.nextInt(10));
        Bus spared = new Bus(masters, slaves, all.told(5));
        for (int i = 0; i < 490; i++) {
            int[] numbers = new int[6];
            numbers[0] = random.nextInt(3) == 0 ? REQUEST : random.nextInt(CALLS);
            for (int k = 1; k < numbers.length; k++) {
                boolean small = random.nextInt(5) > 0;
                numbers[k] = small ? random.nextInt(5) : EDGES[random.nextInt(EDGES.length)];
            }
            if (numbers[0] == REQUEST) {
                numbers[2] = random.nextInt(32768);
                numbers[3] = random.nextInt(65536) & (random.nextBoolean() ? -1 : -128);
            }
            long answer = answer(all, numbers);
            if (answer != THROWN) {
                CHECK.due("seed " + seed + " call " + i, answer(spared, numbers), answer);
            }
        }
        CHECK.sound("seed " + seed, all);
    }

    private static long answer(Bus bus, int[] n) {
        try {
            return n[0] < 13 ? setOrAsk(bus, n) : look(bus, n);
        } catch (IndexOutOfBoundsException | IllegalStateException | IllegalArgumentException
                | UnsupportedOperationException e) {
            boolean own = e.getClass() == IndexOutOfBoundsException.class
                    || e.getClass() == IllegalStateException.class
                    || e.getClass() == IllegalArgumentException.class
                    || e.getClass() == UnsupportedOperationException.class;
            CHECK.due("an exception of its own: " + e, own ? 1 : 0, 1);
            return THROWN;
        }
    }

    private static long setOrAsk(Bus bus, int[] n) {
        switch (n[0]) {
            case 0:
                return bus.map(n[1], n[2]);
            case 1:
                return bus.policy(n[1], n[2] > 1);
            case 2:
                return bus.master(n[1], n[2], n[3] * 0x1357);
            case 3:
                return bus.early(n[1], n[2] > 1) ? 1 : 0;
            case 4:
                return bus.slave(n[1], n[2], n[3] * 0x1357);
            case 5:
                return bus.way(n[1], n[2], n[3]);
            case 6:
                return bus.spoil(n[1], n[2], n[3] > 1);
            case 7:
                return bus.poke(n[1], n[2]);
            case 8:
                return bus.peek(n[1]);
            case REQUEST:
                return bus.request(n[1], n[2], n[3], n[4], n[5]);
            case 10:
                return bus.tick(n[1]);
            case 11:
                return bus.drain(n[1]);
            default:
                return bus.ticket(n[1], n[2]);
        }
    }

    private static long look(Bus bus, int[] n) {
        switch (n[0]) {
            case 13:
                return bus.data(n[1], n[2]);
            case 14:
                return bus.forget();
            case 15:
                return bus.wire(n[1], n[2], n[3], n[4]);
            case 16:
                return bus.content(n[1], n[2], n[3]);
            case 17:
                return bus.port(n[1], n[2], n[3]);
            case 18:
                return bus.target(n[1], n[2]);
            case 19:
                return bus.right(n[1], n[2]);
            case 20:
                return bus.told(n[1]);
            case 21:
                bus.see(n[1], n[2], n[3], n[4], n[5]);
                return 0;
            case 22:
                return bus.judge(n[1]);
            case 23:
                return bus.watched(n[1], n[2]);
            case 24:
                bus.again(n[1]);
                return 0;
            default:
                if (n[1] == 4) {
                    bus.clear();
                }
                return 0;
        }
    }

    private static void shape(Bus bus, Random random) {
        for (int m = 0; m < bus.told(3); m++) {
            bus.early(m, random.nextBoolean());
            bus.master(m, random.nextInt(5), 1 << random.nextInt(16) | random.nextInt(65536));
        }
        for (int s = 0; s < bus.told(4); s++) {
            bus.way(s, random.nextInt(16), random.nextInt(3));
            bus.slave(s, random.nextInt(5), 1 << random.nextInt(16) | random.nextInt(65536));
        }
        bus.policy(random.nextInt(4), random.nextBoolean());
        bus.map(random.nextInt(16), -1);
    }

    /** With one request at a time, memory is what a plain row of bytes would be. */
    private static void oneMasterInOrder(int seed) {
        Random random = new Random(seed);
        Bus bus = new Bus(1, 1 + random.nextInt(4), 1 + random.nextInt(8));
        shape(bus, random);
        int[] bytes = new int[65536];
        int slaves = bus.told(4);
        while (bus.callsLeft() > 50) {
            int size = random.nextInt(4);
            int length = 1 + random.nextInt(16);
            int how = Check.how(length, size, Check.GROWING) + 256 * random.nextInt(2);
            int address = 4096 * random.nextInt(16) + random.nextInt(64);
            long x = random.nextLong();
            int ticket = bus.request(0, how, address, random.nextInt(16), x);
            CHECK.due("done", bus.drain(1000) > 0 ? 1 : 0, 1);
            boolean slave = bus.ticket(ticket, 6) < slaves;
            CHECK.due("response", bus.ticket(ticket, 1), slave ? 0 : 3);
            int from = address;
            for (int k = 0; k < length && slave; k++) {
                int end = (from >> size) + 1 << size;
                x = Check.seedAfter(x, 1);
                long data = bus.data(ticket, k);
                for (int a = from; a < end; a++) {
                    if (how >= 256) {
                        bytes[a] = Check.laneByte(x, a);
                    }
                    CHECK.due("byte " + a, Check.laneByte(data, a), bytes[a]);
                }
                int seen = from + random.nextInt(end - from);
                CHECK.due("memory " + seen, bus.peek(seen), bytes[seen]);
                from = end;
            }
        }
        CHECK.sound("one master", bus);
    }

    /** With many at once, all is done in the end, no monitor finds a fault, and all counts agree. */
    private static void manyMasters(int seed) {
        Random random = new Random(seed);
        Bus bus = new Bus(1 + random.nextInt(4), 1 + random.nextInt(4), 1 + random.nextInt(8));
        shape(bus, random);
        int transfers = 0;
        for (int i = 0; i < 64; i++) {
            int how = Check.how(1 + random.nextInt(16), random.nextInt(4), random.nextInt(2)) + 256 * random.nextInt(2);
            int address = 4096 * random.nextInt(16) + random.nextInt(3000);
            bus.request(random.nextInt(bus.told(3)), how, address, random.nextInt(4), i);
            transfers += bus.tick(1 + random.nextInt(30));
        }
        for (int i = 0; i < 100; i++) {
            transfers += bus.tick(100);
        }
        CHECK.due("seed " + seed + ": all is done", bus.told(2), 0);
        CHECK.sound("seed " + seed, bus);
        int counted = 0;
        for (int side = 0; side < 2; side++) {
            int count = bus.told(3 + side);
            for (int k = 0; k < count; k++) {
                for (int c = 0; c < 5; c++) {
                    counted += bus.port(side, k, c);
                }
            }
        }
        CHECK.due("seed " + seed + ": transfers", counted, transfers);
        int slaves = bus.told(4);
        for (int t = 0; t <= slaves; t++) {
            for (int what = 0; what < 4; what++) {
                CHECK.due("seed " + seed + ": nothing is left", bus.target(t, what), 0);
            }
        }
    }
}
