import java.util.List;

/** Counts the answers of a test that are not as due, and ends the test. */
final class Check {
    static final int FIXED = 0;
    static final int GROWING = 1;
    static final int WRAPPING = 2;
    static final int WRITE = 256;
    static final int EXCLUSIVE = 512;
    static final int SPARSE = 1024;
    static final int URGENCY = 2048;

    static final int MASTER = 0;
    static final int SLAVE = 1;
    static final int AW = 0;
    static final int W = 1;
    static final int B = 2;
    static final int AR = 3;
    static final int R = 4;

    static final int IDLE = 0;
    static final int VALID = 1;
    static final int READY = 2;
    static final int BOTH = 3;

    private int wrong;
    private int asked;

    void due(String call, long got, long want) {
        asked++;
        if (got != want) {
            wrong++;
            System.out.println(call + " answered " + got + ", due is " + want);
        }
    }

    void due(String call, String got, String want) {
        asked++;
        if (!got.equals(want)) {
            wrong++;
            System.out.println(call + " answered " + got + ", due is " + want);
        }
    }

    void due(String call, boolean got, boolean want) {
        due(call, got ? 1 : 0, want ? 1 : 0);
    }

    void same(String name, List<Long> got, List<Long> want) {
        due(name + ": how many answers", got.size(), want.size());
        for (int i = 0; i < want.size() && i < got.size(); i++) {
            due(name + ": answer " + i, got.get(i), want.get(i));
        }
    }

    /** The call must throw just this exception, not one of a class below it. */
    void fails(String call, Class<? extends RuntimeException> want, Runnable run) {
        asked++;
        Class<?> got = null;
        try {
            run.run();
        } catch (RuntimeException e) {
            got = e.getClass();
        }
        if (got != want) {
            wrong++;
            System.out.println(call + " threw " + got + ", due is " + want);
        }
    }

    void noIndex(String call, Runnable run) {
        fails(call, IndexOutOfBoundsException.class, run);
    }

    void badNumber(String call, Runnable run) {
        fails(call, IllegalArgumentException.class, run);
    }

    void badState(String call, Runnable run) {
        fails(call, IllegalStateException.class, run);
    }

    void noRoom(String call, Runnable run) {
        fails(call, UnsupportedOperationException.class, run);
    }

    void end() {
        System.out.println(asked + " answers, " + wrong + " of them not as due");
        if (wrong != 0) {
            System.exit(1);
        }
    }

    static int how(int length, int size, int kind) {
        return length - 1 + 16 * size + 64 * kind;
    }

    /** The CONTENT of AW and AR, for a how as request has it. */
    static long address(int id, int a, int how) {
        long length = how % 16;
        long size = how / 16 % 4;
        long kind = how / 64 % 4;
        long exclusive = how / 512 % 2;
        long urgency = how / 2048;
        return id + 64L * a + (length << 22) + (size << 26) + (kind << 28) + (exclusive << 30) + (urgency << 31);
    }

    static long seedAfter(long seed, int beats) {
        long x = seed;
        for (int k = 0; k < beats; k++) {
            x = 6364136223846793005L * x + 1442695040888963407L;
        }
        return x;
    }

    static int laneByte(long data, int address) {
        return (int) (data >>> 8 * (address % 8)) & 255;
    }

    /** No monitor at a port has found a fault. */
    void sound(String run, Bus bus) {
        for (int side = 0; side < 2; side++) {
            int count = bus.told(3 + side);
            for (int k = 0; k < count; k++) {
                due(run + ": rule at port " + side + " " + k, bus.port(side, k, 5), 0);
            }
        }
    }
}
