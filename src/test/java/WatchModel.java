import java.util.ArrayList;
import java.util.List;

/** A second, plain model of the document's section 6: a monitor of wires that are told. */
final class WatchModel {
    private static final int AW = 0;
    private static final int W = 1;
    private static final int B = 2;
    private static final int AR = 3;
    private static final int R = 4;

    private static final class Write {
        Long address;
        final List<Integer> beats = new ArrayList<>();

        boolean ended() {
            return !beats.isEmpty() && beats.get(beats.size() - 1) >= 256;
        }
    }

    private static final class Read {
        final long address;
        int beats;

        Read(long address) {
            this.address = address;
        }
    }

    private final int[] how = new int[5];
    private final long[] content = new long[5];
    private final int[] rest = new int[5];
    private final int[] howBefore = new int[5];
    private final long[] contentBefore = new long[5];
    private final int[] restBefore = new int[5];
    private final List<Write> writes = new ArrayList<>();
    private final List<Read> reads = new ArrayList<>();
    int rule;
    int channel = -1;
    int tick = -1;
    int ticks;

    int writes() {
        return writes.size();
    }

    int reads() {
        return reads.size();
    }

    void see(int c, int seen, long told, int toldRest) {
        how[c] = seen;
        content[c] = told;
        rest[c] = toldRest;
    }

    int judge() {
        if (rule == 0) {
            look();
        }
        for (int c = 0; c < 5; c++) {
            howBefore[c] = how[c];
            contentBefore[c] = content[c];
            restBefore[c] = rest[c];
            how[c] = 0;
        }
        ticks++;
        return rule;
    }

    private boolean found(int broken, int where) {
        if (broken != 0) {
            rule = broken;
            channel = where;
            tick = ticks;
        }
        return broken != 0;
    }

    private void look() {
        for (int c = 0; c < 5; c++) {
            if (found(wireRule(c), c)) {
                return;
            }
        }
        if (how[B] == 3) {
            writes.remove(answered(rest[B] % 64));
        }
        if (how[R] == 3) {
            Read read = readOf(rest[R] % 64);
            read.beats++;
            if (read.beats == length(read.address)) {
                reads.remove(read);
            }
        }
        if (how[AR] == 3) {
            if (found(reads.size() == 16 ? 12 : 0, AR)) {
                return;
            }
            reads.add(new Read(content[AR]));
        }
        if (how[AW] == 3 && found(takeAddress(), AW)) {
            return;
        }
        if (how[W] == 3) {
            found(takeBeat(), W);
        }
    }

    private int wireRule(int c) {
        boolean valid = how[c] % 2 == 1;
        if (howBefore[c] == 1) {
            boolean same = content[c] == contentBefore[c] && rest[c] == restBefore[c];
            return !valid ? 1 : same ? 0 : 2;
        }
        if (!valid || c == W) {
            return 0;
        }
        return c == B ? answerRule() : c == R ? beatRule() : burstRule(content[c]);
    }

    private int answerRule() {
        Write write = answered(rest[B] % 64);
        if (write == null) {
            return 9;
        }
        return rest[B] / 64 % 4 == 1 && !exclusive(write.address) ? 11 : 0;
    }

    private int beatRule() {
        Read read = readOf(rest[R] % 64);
        if (read == null) {
            return 10;
        }
        boolean last = read.beats + 1 == length(read.address);
        if (last != rest[R] >= 256) {
            return 7;
        }
        return rest[R] / 64 % 4 == 1 && !exclusive(read.address) ? 11 : 0;
    }

    private Write answered(int id) {
        for (Write w : writes) {
            if (w.address != null && w.ended() && part(w.address, 0, 64) == id) {
                return w;
            }
        }
        return null;
    }

    private Read readOf(int id) {
        for (Read r : reads) {
            if (part(r.address, 0, 64) == id) {
                return r;
            }
        }
        return null;
    }

    private int takeAddress() {
        Write write = null;
        for (int i = writes.size() - 1; i >= 0; i--) {
            write = writes.get(i).address == null ? writes.get(i) : write;
        }
        if (write == null) {
            if (writes.size() == 16) {
                return 12;
            }
            write = new Write();
            writes.add(write);
        }
        write.address = content[AW];
        for (int k = 0; k < write.beats.size(); k++) {
            int broken = writeBeatRule(write, k);
            if (broken != 0) {
                return broken;
            }
        }
        return 0;
    }

    private int takeBeat() {
        Write write = null;
        for (int i = writes.size() - 1; i >= 0; i--) {
            write = writes.get(i).ended() ? write : writes.get(i);
        }
        if (write == null) {
            if (writes.size() == 16) {
                return 12;
            }
            write = new Write();
            writes.add(write);
        }
        if (write.beats.size() == 16) {
            return 7;
        }
        write.beats.add(rest[W]);
        return write.address == null ? 0 : writeBeatRule(write, write.beats.size() - 1);
    }

    private static int writeBeatRule(Write write, int beat) {
        int told = write.beats.get(beat);
        int due = length(write.address) - 1;
        if (beat == due && told < 256 || beat != due && (told >= 256 || beat > due)) {
            return 7;
        }
        int lanes = 0;
        for (int a : burst(write.address).bytesOf(beat)) {
            lanes |= 1 << a % 8;
        }
        return (told % 256 | lanes) == lanes ? 0 : 8;
    }

    private static int part(long address, int from, int count) {
        return (int) (address >>> from & count - 1);
    }

    private static int length(long address) {
        return part(address, 22, 16) + 1;
    }

    private static boolean exclusive(long address) {
        return part(address, 30, 2) == 1;
    }

    private static Model.Request burst(long address) {
        Model.Request burst = new Model.Request();
        burst.address = part(address, 6, 65536);
        burst.length = length(address);
        burst.bytes = 1 << part(address, 26, 4);
        burst.kind = part(address, 28, 4);
        burst.exclusive = exclusive(address);
        return burst;
    }

    static int burstRule(long address) {
        Model.Request burst = burst(address);
        int all = burst.length * burst.bytes;
        int a = burst.address;
        boolean power = all == 1 || all == 2 || all == 4 || all == 8 || all == 16 || all == 32 || all == 64 || all == 128;
        if (burst.kind == 3) {
            return 3;
        }
        boolean goodWrap = power && burst.length > 1 && a % burst.bytes == 0;
        if (burst.kind == Check.WRAPPING && !goodWrap) {
            return 4;
        }
        if (burst.kind == Check.GROWING && (a - a % burst.bytes + all - 1) / 4096 != a / 4096) {
            return 5;
        }
        return burst.exclusive && (burst.kind == Check.FIXED || !power || a % all != 0) ? 6 : 0;
    }
}
