import java.util.ArrayList;
import java.util.List;

/** Section 1: bounds of addresses and bursts, where they wrap, and the rules that they break. */
final class BurstBoundsTest {
    private static final Check CHECK = new Check();
    private static final int[] NEAR_EDGES = {0, 1, 2, 3, 4, 6, 7, 8, 12, 15, 16, 24, 32, 56, 64, 96, 112, 120, 127, 128,
        192, 2048, 3968, 3969, 4032, 4064, 4080, 4088, 4092, 4094, 4095, 4096, 4097, 8064, 32767, 32768, 61440,
        65408, 65409, 65472, 65504, 65520, 65528, 65532, 65534, 65535};

    public static void main(String[] args) {
        pages();
        kinds();
        lengthsOfWraps();
        evenAddressesOfWraps();
        endsOfPages();
        exclusiveKinds();
        exclusiveBytes();
        exclusiveAddresses();
        firstRule();
        everyRule();
        greatestContent();
        everyBurst();
        CHECK.end();
    }

    /** Addresses 0 .. 65535 in 16 pages of 4096: the first and the last of each. */
    private static void pages() {
        for (int slaves = 1; slaves <= 4; slaves++) {
            Bus bus = new Bus(1, slaves, 8);
            for (int page = 0; page < 16; page++) {
                int first = bus.request(0, 0, 4096 * page, 0, 0);
                int last = bus.request(0, 0, 4096 * page + 4095, 0, 0);
                CHECK.due("target of page " + page, bus.ticket(first, 6), page % slaves);
                CHECK.due("target of its end " + page, bus.ticket(last, 6), page % slaves);
                bus.drain(100);
            }
            bus.map(7, -1);
            int[] ends = {4096 * 7 - 1, 4096 * 7, 4096 * 8 - 1, 4096 * 8};
            int[] targets = {6 % slaves, slaves, slaves, 8 % slaves};
            for (int i = 0; i < 4; i++) {
                int ticket = bus.request(0, 0, ends[i], 0, 0);
                CHECK.due("target of " + ends[i], bus.ticket(ticket, 6), targets[i]);
                bus.drain(100);
                CHECK.due("response of " + ends[i], bus.ticket(ticket, 1), targets[i] == slaves ? 3 : 0);
            }
        }
    }

    /** The rule that a burst breaks, as the calls tell it that meet a burst: both sorts of request, AW and AR. */
    private static void breaks(String name, int how, int address, int rule) {
        Bus bus = new Bus(1, 1, 1);
        for (int sort : new int[] {0, Check.WRITE}) {
            String call = name + ": request " + (how + sort) + " at " + address;
            if (rule == 0) {
                CHECK.due(call, bus.request(0, how + sort, address, 0, 0), sort == 0 ? 0 : 1);
            } else {
                CHECK.badNumber(call, () -> bus.request(0, how + sort, address, 0, 0));
            }
        }
        for (int watcher = 0; watcher < 2; watcher++) {
            int channel = watcher == 0 ? Check.AW : Check.AR;
            bus.see(watcher, channel, Check.VALID, Check.address(0, address, how), 0);
            CHECK.due(name + ": rule of " + how + " at " + address, bus.judge(watcher), rule);
            CHECK.due(name + ": its channel", bus.watched(watcher, 1), rule == 0 ? -1 : channel);
        }
    }

    private static void kinds() {
        breaks("kind 0", Check.how(2, 0, 0), 0, 0);
        breaks("kind 1", Check.how(2, 0, 1), 0, 0);
        breaks("kind 2", Check.how(2, 0, 2), 0, 0);
        breaks("kind 3", Check.how(2, 0, 3), 0, 3);
    }

    private static void lengthsOfWraps() {
        for (int length = 1; length <= 16; length++) {
            boolean fits = length == 2 || length == 4 || length == 8 || length == 16;
            for (int size = 0; size < 4; size++) {
                breaks("wrap of " + length, Check.how(length, size, Check.WRAPPING), 128, fits ? 0 : 4);
            }
        }
    }

    private static void evenAddressesOfWraps() {
        for (int size = 0; size < 4; size++) {
            int n = 1 << size;
            for (int a = 64; a <= 64 + n; a++) {
                boolean even = a == 64 || a == 64 + n;
                breaks("wrap from " + a, Check.how(4, size, Check.WRAPPING), a, even ? 0 : 4);
            }
        }
    }

    private static void endsOfPages() {
        for (int size = 0; size < 4; size++) {
            int n = 1 << size;
            for (int length = 1; length <= 16; length++) {
                int how = Check.how(length, size, Check.GROWING);
                for (int end : new int[] {4096, 32768, 65536}) {
                    int lastStart = end - (length - 1) * n - 1;
                    breaks("the last start that fits", how, lastStart, 0);
                    if (length > 1) {
                        breaks("the first start that does not", how, lastStart + 1, 5);
                    }
                }
            }
        }
        breaks("FIXED has no end", Check.how(16, 3, Check.FIXED), 65535, 0);
        breaks("WRAPPING comes back", Check.how(16, 3, Check.WRAPPING), 65528, 0);
    }

    private static void exclusiveKinds() {
        for (int size = 0; size < 4; size++) {
            breaks("exclusive, FIXED", Check.how(2, size, Check.FIXED) + Check.EXCLUSIVE, 0, 6);
            breaks("exclusive, GROWING", Check.how(2, size, Check.GROWING) + Check.EXCLUSIVE, 0, 0);
            breaks("exclusive, WRAPPING", Check.how(2, size, Check.WRAPPING) + Check.EXCLUSIVE, 0, 0);
        }
    }

    private static void exclusiveBytes() {
        for (int size = 0; size < 4; size++) {
            for (int length = 1; length <= 16; length++) {
                boolean power = length == 1 || length == 2 || length == 4 || length == 8 || length == 16;
                int how = Check.how(length, size, Check.GROWING) + Check.EXCLUSIVE;
                breaks("exclusive, " + length + " beats", how, 0, power ? 0 : 6);
            }
        }
    }

    private static void exclusiveAddresses() {
        for (int size = 0; size < 4; size++) {
            for (int length = 1; length <= 16; length *= 2) {
                int bytes = length << size;
                int how = Check.how(length, size, Check.GROWING) + Check.EXCLUSIVE;
                breaks("exclusive at a multiple", how, 4096 - bytes, 0);
                breaks("exclusive at the next one", how, 4096, 0);
                if (bytes > 1) {
                    breaks("exclusive, one behind", how, 4096 + 1, 6);
                    breaks("exclusive, in the middle", how, 4096 + bytes / 2, 6);
                    breaks("exclusive, one before", how, 4096 + bytes - 1, 6);
                }
            }
        }
        breaks("exclusive, the last 128", Check.how(16, 3, Check.GROWING) + Check.EXCLUSIVE, 65408, 0);
    }

    /** Of several rules the first. */
    private static void firstRule() {
        breaks("kind and all", Check.how(3, 3, 3) + Check.EXCLUSIVE, 65535, 3);
        breaks("wrap and exclusive", Check.how(3, 3, Check.WRAPPING) + Check.EXCLUSIVE, 1, 4);
        breaks("page and exclusive", Check.how(3, 3, Check.GROWING) + Check.EXCLUSIVE, 65535, 5);
        breaks("just exclusive", Check.how(3, 3, Check.GROWING) + Check.EXCLUSIVE, 0, 6);
    }

    /** Every length, size and kind at addresses near all edges, by counting the bytes. */
    private static void everyRule() {
        for (int form = 0; form < 512; form++) {
            int how = form % 256 + (form < 256 ? 0 : Check.EXCLUSIVE);
            for (int address : NEAR_EDGES) {
                breaks("by count", how, address, countedRule(how, address));
            }
        }
    }

    private static int countedRule(int how, int a) {
        int length = how % 16 + 1;
        int n = new int[] {1, 2, 4, 8}[how / 16 % 4];
        int kind = how / 64 % 4;
        boolean power = length == 1 || length == 2 || length == 4 || length == 8 || length == 16;
        if (kind == 3) {
            return 3;
        }
        if (kind == Check.WRAPPING && (!power || length == 1 || a % n != 0)) {
            return 4;
        }
        for (int byteOfBurst = 0; kind == Check.GROWING && byteOfBurst < length * n; byteOfBurst++) {
            if ((a / n * n + byteOfBurst) / 4096 != a / 4096) {
                return 5;
            }
        }
        boolean exclusive = how >= Check.EXCLUSIVE;
        return exclusive && (kind == Check.FIXED || !power || a % (length * n) != 0) ? 6 : 0;
    }

    /** The greatest number of each field, on the wires of both sides; the ID becomes 63. */
    private static void greatestContent() {
        int exclusive = Check.how(16, 3, Check.WRAPPING) + Check.EXCLUSIVE + 15 * Check.URGENCY;
        int fixed = Check.how(16, 3, Check.FIXED) + 15 * Check.URGENCY;
        contentOf(3, 15, exclusive, 65408);
        contentOf(3, 15, fixed, 65535);
        contentOf(0, 0, 0, 0);
    }

    private static void contentOf(int master, int id, int how, int address) {
        Bus bus = new Bus(4, 4, 8);
        int slave = address / 4096 % 4;
        bus.request(master, how + Check.WRITE, address, id, -1);
        bus.request(master, how, address, id, -1);
        bus.tick(1);
        for (int channel : new int[] {Check.AW, Check.AR}) {
            CHECK.due("content at the master", bus.content(0, master, channel), Check.address(id, address, how));
            CHECK.due("REST at the master", bus.wire(0, master, channel, 2), 0);
        }
        bus.tick(1);
        for (int channel : new int[] {Check.AW, Check.AR}) {
            long content = Check.address(16 * master + id, address, how);
            CHECK.due("content at the slave", bus.content(1, slave, channel), content);
            CHECK.due("REST at the slave", bus.wire(1, slave, channel, 2), 0);
        }
    }

    /** Every burst that breaks no rule, from starts near all edges: lanes, data and memory beat by beat. */
    private static void everyBurst() {
        int[] starts = {0, 1, 2, 5, 8, 20, 24, 56, 64, 120, 3 * 4096 - 128, 3 * 4096 - 8, 3 * 4096 - 1, 5 * 4096 + 88,
            32768 + 40, 65408, 65536 - 16, 65535};
        for (int form = 0; form < 192; form++) {
            for (int start : starts) {
                if (countedRule(form, start) == 0) {
                    writeAndRead(form, start);
                }
            }
        }
    }

    private static List<List<Integer>> bytesOf(int how, int a) {
        int length = how % 16 + 1;
        int n = 1 << how / 16 % 4;
        int kind = how / 64;
        List<List<Integer>> beats = new ArrayList<>();
        int next = a;
        for (int k = 0; k < length; k++) {
            List<Integer> bytes = new ArrayList<>();
            do {
                bytes.add(next);
                next++;
            } while (next % n != 0);
            if (kind == Check.FIXED) {
                next = a;
            }
            if (kind == Check.WRAPPING && next % (length * n) == 0) {
                next -= length * n;
            }
            beats.add(bytes);
        }
        return beats;
    }

    private static void writeAndRead(int how, int start) {
        Bus bus = new Bus(1, 1, 8);
        int seed = how + start;
        int write = bus.request(0, how + Check.WRITE, start, 3, seed);
        List<List<Integer>> beats = bytesOf(how, start);
        int[] memory = new int[65536];
        bus.tick(1);
        for (int k = 0; k < beats.size(); k++) {
            long x = Check.seedAfter(seed, k + 1);
            bus.tick(1);
            int strobes = 0;
            long data = 0;
            for (int a : beats.get(k)) {
                strobes += 1 << a % 8;
                data |= x & 255L << 8 * (a % 8);
                memory[a] = Check.laneByte(x, a);
            }
            String name = how + " at " + start + ", beat " + k;
            CHECK.due("strobes of " + name, bus.wire(0, 0, Check.W, 2), strobes + (k == beats.size() - 1 ? 256 : 0));
            CHECK.due("content of " + name, bus.content(0, 0, Check.W), data);
            CHECK.due("data of " + name, bus.data(write, k), data);
        }
        bus.drain(100);
        for (int a = Math.max(0, start - 130); a < Math.min(65536, start + 130); a++) {
            CHECK.due("byte " + a + " behind " + how + " at " + start, bus.peek(a), memory[a]);
        }
        int read = bus.request(0, how, start, 3, 0);
        bus.drain(100);
        for (int k = 0; k < beats.size(); k++) {
            long data = 0;
            for (int a : beats.get(k)) {
                data |= (long) memory[a] << 8 * (a % 8);
            }
            CHECK.due("read back of " + how + " at " + start, bus.data(read, k), data);
        }
        CHECK.sound(how + " at " + start, bus);
    }
}
