import java.util.Arrays;

/**
 * A bus of five channels: masters, a crossbar, slaves with one memory, a monitor at each port, and
 * two watchers, which are monitors of wires that the caller tells.
 *
 * <p>Everything that a tick needs is made in the constructor and used again, so that a run of calls
 * makes no more objects than the first one did.
 */
public final class BusCrossbar {
    public static final int NONE = -1;

    private static final int AW = 0;
    private static final int W = 1;
    private static final int B = 2;
    private static final int AR = 3;
    private static final int R = 4;
    private static final int CHANNELS = 5;

    private static final int MOST_PORTS = 4;
    private static final int MOST_LIMIT = 8;
    private static final int PAGES = 16;
    private static final int PAGE_BYTES = 4096;
    private static final int ADDRESSES = 65536;
    private static final int WORDS = ADDRESSES / 8;
    private static final int SPOILT_WORDS = ADDRESSES / 64;
    private static final int IDS = 64;
    private static final int MASTER_IDS = 16;
    private static final int MOST_BEATS = 16;
    private static final int TICKETS = 64;
    private static final int MOST_UNSENT = 8;
    private static final int MONITOR_ROOM = 16;
    private static final int SLAVE_ROOM = 4;
    private static final int WATCHERS = 2;
    private static final int EVERY_TICK = 65535;

    private static final int FIXED = 0;
    private static final int GROWING = 1;
    private static final int WRAPPING = 2;

    private static final int HOW_WRITE = 256;
    private static final int HOW_EXCLUSIVE = 512;
    private static final int HOW_SPARSE = 1024;
    private static final int MOST_HOW = 32767;

    private static final int ALL_LANES = 255;
    private static final int LAST = 256;
    private static final int MOST_REST = 511;

    private static final int OKAY = 0;
    private static final int EXCLUSIVE_OKAY = 1;
    private static final int SLAVE_ERROR = 2;
    private static final int NO_SLAVE = 3;

    private static final int LEAST_MASTER = 0;
    private static final int ROUND = 1;
    private static final int EARLIEST = 2;
    private static final int MOST_URGENT = 3;

    private static final int NO_RULE = 0;
    private static final int RULE_FELL = 1;
    private static final int RULE_CHANGED = 2;
    private static final int RULE_KIND = 3;
    private static final int RULE_WRAP = 4;
    private static final int RULE_PAGE = 5;
    private static final int RULE_EXCLUSIVE = 6;
    private static final int RULE_LAST = 7;
    private static final int RULE_STROBES = 8;
    private static final int RULE_NO_WRITE = 9;
    private static final int RULE_NO_READ = 10;
    private static final int RULE_ANSWER = 11;
    private static final int RULE_FULL = 12;

    private static final long SEED_FACTOR = 6364136223846793005L;
    private static final long SEED_STEP = 1442695040888963407L;

    private final Memory memory;
    private final Switch crossbar;
    private final Master[] masters;
    private final Slave[] slaves;
    private final Port[] masterPorts;
    private final Port[] slavePorts;
    private final Port[] watchers;
    private final Request[] tickets;
    private int ticketCount;
    private int time;

    public BusCrossbar(int masters, int slaves, int limit) {
        int masterCount = nearest(masters, MOST_PORTS);
        int slaveCount = nearest(slaves, MOST_PORTS);
        Memory shared = new Memory();
        memory = shared;
        crossbar = new Switch(masterCount, slaveCount, nearest(limit, MOST_LIMIT));
        this.masters = new Master[masterCount];
        masterPorts = new Port[masterCount];
        for (int m = 0; m < masterCount; m++) {
            this.masters[m] = new Master();
            masterPorts[m] = new Port();
        }
        this.slaves = new Slave[slaveCount];
        slavePorts = new Port[slaveCount];
        for (int s = 0; s < slaveCount; s++) {
            this.slaves[s] = new Slave(shared);
            slavePorts[s] = new Port();
        }
        watchers = new Port[WATCHERS];
        for (int i = 0; i < WATCHERS; i++) {
            watchers[i] = new Port();
        }
        tickets = new Request[TICKETS];
        for (int i = 0; i < TICKETS; i++) {
            tickets[i] = new Request();
        }
    }

    // ---- what is set

    public int map(int page, int slave) throws IndexOutOfBoundsException, IllegalStateException {
        needIndex(page, PAGES);
        if (slave != NONE) {
            needIndex(slave, slaves.length);
        }
        if (openRequests() > 0) {
            throw new IllegalStateException("a request is not done");
        }
        int before = crossbar.pages[page];
        crossbar.pages[page] = slave == NONE ? slaves.length : slave;
        return before == slaves.length ? NONE : before;
    }

    public int policy(int policy, boolean whole) throws IllegalArgumentException {
        needNumber(policy, LEAST_MASTER, MOST_URGENT);
        int before = crossbar.policy;
        crossbar.policy = policy;
        crossbar.whole = whole;
        return before;
    }

    public int master(int master, int channel, int pattern) throws IndexOutOfBoundsException {
        needIndex(master, masters.length);
        needIndex(channel, CHANNELS);
        return exchange(masters[master].patterns, channel, pattern);
    }

    public boolean early(int master, boolean on) throws IndexOutOfBoundsException {
        needIndex(master, masters.length);
        boolean before = masters[master].early;
        masters[master].early = on;
        return before;
    }

    public int slave(int slave, int channel, int pattern) throws IndexOutOfBoundsException {
        needIndex(slave, slaves.length);
        needIndex(channel, CHANNELS);
        return exchange(slaves[slave].patterns, channel, pattern);
    }

    public int way(int slave, int delay, int way) throws IndexOutOfBoundsException, IllegalArgumentException {
        needIndex(slave, slaves.length);
        needNumber(delay, 0, 15);
        needNumber(way, 0, 2);
        Slave changed = slaves[slave];
        int before = 16 * changed.way + changed.delay;
        changed.delay = delay;
        changed.way = way;
        return before;
    }

    public int spoil(int address, int n, boolean on) throws IndexOutOfBoundsException, IllegalArgumentException {
        needIndex(address, ADDRESSES);
        if (n < 1) {
            throw new IllegalArgumentException("n is below 1");
        }
        return memory.mark(address, Math.min(n, ADDRESSES - address), on);
    }

    public int poke(int address, int v) throws IndexOutOfBoundsException, IllegalArgumentException {
        needIndex(address, ADDRESSES);
        needNumber(v, 0, 255);
        int before = memory.byteAt(address);
        int lane = address & 7;
        memory.store(address, (long) v << 8 * lane, 1 << lane);
        return before;
    }

    public int peek(int address) throws IndexOutOfBoundsException {
        needIndex(address, ADDRESSES);
        return memory.byteAt(address);
    }

    // ---- requests

    public int request(int master, int how, int address, int id, long seed)
            throws IndexOutOfBoundsException, IllegalArgumentException, UnsupportedOperationException {
        needIndex(master, masters.length);
        needIndex(address, ADDRESSES);
        needNumber(how, 0, MOST_HOW);
        needNumber(id, 0, MASTER_IDS - 1);
        long content = Burst.contentOf(how, address, id);
        if (Burst.brokenRule(content) != NO_RULE) {
            throw new IllegalArgumentException("the burst breaks a rule");
        }
        boolean write = (how & HOW_WRITE) != 0;
        if (ticketCount >= TICKETS || !masters[master].hasRoom(write)) {
            throw new UnsupportedOperationException("there is no room");
        }
        Request made = tickets[ticketCount];
        made.start(content, write, time);
        if (write) {
            made.burst.fillWrite(seed, (how & HOW_SPARSE) != 0);
        }
        masters[master].enqueue(made);
        ticketCount++;
        return ticketCount - 1;
    }

    public int tick(int n) throws IllegalArgumentException {
        needNumber(n, 1, 100);
        return runTicks(n, false);
    }

    public int drain(int n) throws IllegalArgumentException {
        needNumber(n, 1, 1000);
        int start = time;
        runTicks(n, true);
        return openRequests() > 0 ? NONE : time - start;
    }

    public int ticket(int ticket, int what) throws IndexOutOfBoundsException, IllegalArgumentException {
        needIndex(ticket, ticketCount);
        needNumber(what, 0, 6);
        Request asked = tickets[ticket];
        switch (what) {
            case 0:
                return asked.stage();
            case 1:
                return asked.response;
            case 2:
                return asked.requested;
            case 3:
                return asked.sent;
            case 4:
                return asked.done;
            case 5:
                return asked.burst.beats;
            default:
                return crossbar.targetOf(asked.burst.content);
        }
    }

    public long data(int ticket, int beat) throws IndexOutOfBoundsException {
        needIndex(ticket, ticketCount);
        Burst asked = tickets[ticket].burst;
        needIndex(beat, asked.beats);
        return asked.data[beat];
    }

    public int forget() throws IllegalStateException {
        if (openRequests() > 0) {
            throw new IllegalStateException("a request is not done");
        }
        int before = ticketCount;
        dropTickets();
        return before;
    }

    // ---- ports

    public int wire(int side, int k, int channel, int what) throws IndexOutOfBoundsException, IllegalArgumentException {
        Port asked = portAt(side, k);
        needIndex(channel, CHANNELS);
        needNumber(what, 0, 2);
        switch (what) {
            case 0:
                return asked.valid[channel] ? 1 : 0;
            case 1:
                return asked.ready[channel] ? 1 : 0;
            default:
                return asked.rests[channel];
        }
    }

    public long content(int side, int k, int channel) throws IndexOutOfBoundsException {
        Port asked = portAt(side, k);
        needIndex(channel, CHANNELS);
        return asked.contents[channel];
    }

    public int port(int side, int k, int what) throws IndexOutOfBoundsException, IllegalArgumentException {
        Port asked = portAt(side, k);
        needNumber(what, 0, 7);
        if (what < CHANNELS) {
            return asked.transfers[what];
        }
        return asked.monitor.faultPart(what - CHANNELS);
    }

    public int target(int target, int what) throws IndexOutOfBoundsException, IllegalArgumentException {
        needIndex(target, slaves.length + 1);
        needNumber(what, 0, 3);
        if (what == 0) {
            return crossbar.underWayTo(target, AW);
        }
        if (what == 1) {
            return crossbar.underWayTo(target, AR);
        }
        if (target == slaves.length) {
            return 0;
        }
        return what == 2 ? slaves[target].writes.size : slaves[target].reads.size;
    }

    public int right(int slave, int id) throws IndexOutOfBoundsException, IllegalArgumentException {
        needIndex(slave, slaves.length);
        needNumber(id, 0, IDS - 1);
        return slaves[slave].rightFrom[id];
    }

    public int told(int what) {
        switch (what) {
            case 0:
                return time;
            case 1:
                return ticketCount;
            case 2:
                return openRequests();
            case 3:
                return masters.length;
            case 4:
                return slaves.length;
            case 5:
                return crossbar.limit;
            case 6:
                return crossbar.policy;
            default:
                return NONE;
        }
    }

    // ---- watchers

    public void see(int watcher, int channel, int how, long content, int rest)
            throws IndexOutOfBoundsException, IllegalArgumentException {
        needIndex(watcher, WATCHERS);
        needIndex(channel, CHANNELS);
        needNumber(how, 0, 3);
        needNumber(rest, 0, MOST_REST);
        Port seen = watchers[watcher];
        seen.silence(channel);
        if ((how & 1) != 0) {
            seen.send(channel, content, rest);
        }
        seen.ready[channel] = (how & 2) != 0;
    }

    public int judge(int watcher) throws IndexOutOfBoundsException {
        needIndex(watcher, WATCHERS);
        Port judged = watchers[watcher];
        judged.monitor.look(judged);
        judged.silenceAll();
        return judged.monitor.rule;
    }

    public int watched(int watcher, int what) throws IndexOutOfBoundsException, IllegalArgumentException {
        needIndex(watcher, WATCHERS);
        needNumber(what, 0, 5);
        Monitor asked = watchers[watcher].monitor;
        switch (what) {
            case 3:
                return asked.ticks;
            case 4:
                return asked.writes.size;
            case 5:
                return asked.reads.size;
            default:
                return asked.faultPart(what);
        }
    }

    public void again(int watcher) throws IndexOutOfBoundsException {
        needIndex(watcher, WATCHERS);
        watchers[watcher].reset();
    }

    public void clear() {
        memory.reset();
        crossbar.reset();
        for (int m = 0; m < masters.length; m++) {
            masters[m].resetSettings();
            masterPorts[m].reset();
        }
        for (int s = 0; s < slaves.length; s++) {
            slaves[s].reset();
            slavePorts[s].reset();
        }
        for (int i = 0; i < WATCHERS; i++) {
            watchers[i].reset();
        }
        dropTickets();
        time = 0;
    }

    // ---- a tick

    /** No port's wires depend on another's in the same tick, so its monitor looks as soon as they are told. */
    private int runTicks(int most, boolean tillDone) {
        int transfers = 0;
        for (int i = 0; i < most && !(tillDone && openRequests() == 0); i++) {
            for (int m = 0; m < masters.length; m++) {
                masterPorts[m].begin();
                masters[m].tell(masterPorts[m], time);
                crossbar.tellMaster(masterPorts[m], m);
                masterPorts[m].monitor.look(masterPorts[m]);
            }
            for (int s = 0; s < slaves.length; s++) {
                slavePorts[s].begin();
                slaves[s].tell(slavePorts[s], time);
                crossbar.tellSlave(slavePorts[s], s);
                slavePorts[s].monitor.look(slavePorts[s]);
            }
            transfers += goOver();
            crossbar.moveAll();
            time++;
        }
        return transfers;
    }

    private int goOver() {
        int transfers = 0;
        for (int m = 0; m < masters.length; m++) {
            for (int c = 0; c < CHANNELS; c++) {
                if (masterPorts[m].moves(c)) {
                    crossbar.passMaster(masterPorts[m], m, c, time);
                    masters[m].pass(masterPorts[m], c, time);
                    transfers += masterPorts[m].count(c);
                }
            }
        }
        for (int s = 0; s < slaves.length; s++) {
            for (int c = 0; c < CHANNELS; c++) {
                if (slavePorts[s].moves(c)) {
                    crossbar.passSlave(slavePorts[s], s, c, time);
                    slaves[s].pass(slavePorts[s], c, time);
                    transfers += slavePorts[s].count(c);
                }
            }
        }
        return transfers;
    }

    // ---- helpers of the face

    private int openRequests() {
        int open = 0;
        for (int m = 0; m < masters.length; m++) {
            open += masters[m].open;
        }
        return open;
    }

    private void dropTickets() {
        for (int m = 0; m < masters.length; m++) {
            masters[m].dropRequests();
        }
        ticketCount = 0;
    }

    private Port portAt(int side, int k) {
        needIndex(side, 2);
        Port[] ports = side == 0 ? masterPorts : slavePorts;
        needIndex(k, ports.length);
        return ports[k];
    }

    private static int nearest(int number, int most) {
        return Math.max(1, Math.min(number, most));
    }

    private static int exchange(int[] patterns, int channel, int pattern) {
        int before = patterns[channel];
        patterns[channel] = pattern & EVERY_TICK;
        return before;
    }

    private static void needIndex(int index, int count) {
        if (index < 0 || index >= count) {
            throw new IndexOutOfBoundsException("there is no such one");
        }
    }

    private static void needNumber(int number, int least, int most) {
        if (number < least || number > most) {
            throw new IllegalArgumentException("a number is none that is told");
        }
    }

    private static boolean isOn(int pattern, int time) {
        return (pattern >> (time & 15) & 1) == 1;
    }

    /** Whether the master's side sends on this channel. */
    private static boolean toSlave(int channel) {
        return channel != B && channel != R;
    }

    private static int restId(int rest) {
        return rest & IDS - 1;
    }

    private static int restResponse(int rest) {
        return rest >> 6 & 3;
    }

    private static boolean restLast(int rest) {
        return (rest & LAST) != 0;
    }

    private static int answerRest(int id, int response, boolean last) {
        return id + IDS * response + (last ? LAST : 0);
    }

    /** All bits of the bytes on these lanes. */
    private static long laneBits(int lanes) {
        long bits = 0;
        for (int lane = 0; lane < 8; lane++) {
            if ((lanes >> lane & 1) == 1) {
                bits |= 255L << 8 * lane;
            }
        }
        return bits;
    }

    /** A burst, by the content of its address, with as many beats as are known of it. */
    private static final class Burst {
        private long content;
        private boolean addressed;
        private boolean ended;
        private int beats;
        private int since;
        private int response;
        private final long[] data = new long[MOST_BEATS];
        private final int[] rests = new int[MOST_BEATS];

        void start(long addressContent) {
            content = addressContent;
            addressed = false;
            ended = false;
            beats = 0;
            since = NONE;
            response = OKAY;
        }

        /** The bits of how for length, size and kind stand in the content in the same order. */
        static long contentOf(int how, int address, int id) {
            long exclusive = (how & HOW_EXCLUSIVE) != 0 ? 1 : 0;
            long urgency = how >> 11 & 15;
            return id | (long) address << 6 | (how & 255L) << 22 | exclusive << 30 | urgency << 31;
        }

        static int idOf(long content) {
            return (int) content & IDS - 1;
        }

        static int addressOf(long content) {
            return (int) (content >> 6) & ADDRESSES - 1;
        }

        static int lengthOf(long content) {
            return ((int) (content >> 22) & 15) + 1;
        }

        static int bytesOf(long content) {
            return 1 << ((int) (content >> 26) & 3);
        }

        static int kindOf(long content) {
            return (int) (content >> 28) & 3;
        }

        static boolean isExclusive(long content) {
            return (content >> 30 & 1) == 1;
        }

        static int urgencyOf(long content) {
            return (int) (content >> 31) & 15;
        }

        static int brokenRule(long content) {
            int kind = kindOf(content);
            if (kind > WRAPPING) {
                return RULE_KIND;
            }
            if (kind == WRAPPING && breaksWrap(content)) {
                return RULE_WRAP;
            }
            if (kind == GROWING && breaksPage(content)) {
                return RULE_PAGE;
            }
            if (isExclusive(content) && breaksExclusive(content)) {
                return RULE_EXCLUSIVE;
            }
            return NO_RULE;
        }

        private static boolean breaksWrap(long content) {
            int length = lengthOf(content);
            boolean fits = length == 2 || length == 4 || length == 8 || length == 16;
            return !fits || addressOf(content) % bytesOf(content) != 0;
        }

        private static boolean breaksPage(long content) {
            int a = addressOf(content);
            int n = bytesOf(content);
            int end = a - a % n + lengthOf(content) * n - 1;
            return end / PAGE_BYTES != a / PAGE_BYTES;
        }

        private static boolean breaksExclusive(long content) {
            int all = lengthOf(content) * bytesOf(content);
            return kindOf(content) == FIXED || Integer.bitCount(all) != 1 || all > 128
                    || addressOf(content) % all != 0;
        }

        static int beatAddress(long content, int beat) {
            int a = addressOf(content);
            int n = bytesOf(content);
            int kind = kindOf(content);
            if (kind == GROWING && beat > 0) {
                return a - a % n + beat * n;
            }
            if (kind == WRAPPING) {
                int all = lengthOf(content) * n;
                int base = a - a % all;
                return base + (a - base + beat * n) % all;
            }
            return a;
        }

        /** The lanes of a beat's bytes, which never go over a boundary of eight. */
        static int beatLanes(long content, int beat) {
            int x = beatAddress(content, beat);
            int n = bytesOf(content);
            int first = x & 7;
            int last = x - x % n + n - 1 & 7;
            return (2 << last) - (1 << first);
        }

        void fillWrite(long seed, boolean sparse) {
            long x = seed;
            int length = lengthOf(content);
            for (int k = 0; k < length; k++) {
                x = SEED_FACTOR * x + SEED_STEP;
                int lanes = beatLanes(content, k);
                int strobes = sparse ? lanes & (int) (x >>> 56) : lanes;
                data[k] = x & laneBits(lanes);
                rests[k] = strobes + (k == length - 1 ? LAST : 0);
            }
        }

        /** Takes a beat more; the caller has seen to it that there is room. */
        void takeBeat(long beatData, int rest) {
            if (beats < MOST_BEATS) {
                data[beats] = beatData;
                rests[beats] = rest;
                beats++;
            }
        }
    }

    /** Bursts in their order; those that have gone are used again. */
    private static final class Line {
        private final Burst[] bursts;
        private int size;

        Line(int room) {
            bursts = new Burst[room];
            for (int i = 0; i < room; i++) {
                bursts[i] = new Burst();
            }
        }

        boolean hasRoom() {
            return size < bursts.length;
        }

        /** A new one at the end, or null if there is no room. */
        Burst add(long content) {
            if (!hasRoom()) {
                return null;
            }
            Burst added = bursts[size];
            added.start(content);
            size++;
            return added;
        }

        Burst at(int i) {
            return i < 0 || i >= size ? null : bursts[i];
        }

        void remove(int i) {
            if (i < 0 || i >= size) {
                return;
            }
            Burst gone = bursts[i];
            for (int k = i + 1; k < size; k++) {
                bursts[k - 1] = bursts[k];
            }
            size--;
            bursts[size] = gone;
        }

        int firstWithId(int id) {
            for (int i = 0; i < size; i++) {
                if (Burst.idOf(bursts[i].content) == id) {
                    return i;
                }
            }
            return NONE;
        }

        int firstAnswerable(int id) {
            for (int i = 0; i < size; i++) {
                Burst b = bursts[i];
                if (b.addressed && b.ended && Burst.idOf(b.content) == id) {
                    return i;
                }
            }
            return NONE;
        }

        int firstUnaddressed() {
            for (int i = 0; i < size; i++) {
                if (!bursts[i].addressed) {
                    return i;
                }
            }
            return NONE;
        }

        int firstUnended() {
            for (int i = 0; i < size; i++) {
                if (!bursts[i].ended) {
                    return i;
                }
            }
            return NONE;
        }
    }

    /** The bytes, eight in a word as they stand on the lanes, and a bit for each that is spoilt. */
    private static final class Memory {
        private final long[] words = new long[WORDS];
        private final long[] spoilt = new long[SPOILT_WORDS];

        void reset() {
            Arrays.fill(words, 0L);
            Arrays.fill(spoilt, 0L);
        }

        private static int wordOf(int address) {
            return address >> 3 & WORDS - 1;
        }

        private static int spoiltWordOf(int address) {
            return address >> 6 & SPOILT_WORDS - 1;
        }

        int byteAt(int address) {
            return (int) (words[wordOf(address)] >> 8 * (address & 7)) & 255;
        }

        long load(int address, int lanes) {
            return words[wordOf(address)] & laneBits(lanes);
        }

        void store(int address, long data, int lanes) {
            long bits = laneBits(lanes);
            int word = wordOf(address);
            words[word] = words[word] & ~bits | data & bits;
        }

        boolean isSpoilt(int address, int lanes) {
            return (spoilt[spoiltWordOf(address)] >> (address & 56) & lanes) != 0;
        }

        /** Marks n bytes, one at least and all of them there: for how many that is new. */
        int mark(int address, int n, boolean on) {
            int end = address + n - 1;
            int first = spoiltWordOf(address);
            int last = spoiltWordOf(end);
            int changed = 0;
            for (int word = first; word <= last; word++) {
                long bits = -1L;
                if (word == first) {
                    bits &= -1L << (address & 63);
                }
                if (word == last) {
                    bits &= -1L >>> 63 - (end & 63);
                }
                long before = spoilt[word];
                spoilt[word] = on ? before | bits : before & ~bits;
                changed += Long.bitCount(before ^ spoilt[word]);
            }
            return changed;
        }
    }

    /** A row of the crossbar: what comes first goes first. */
    private static final class Row {
        private final long[] contents;
        private final int[] rests;
        private final int[] came;
        private int size;

        Row(int room) {
            contents = new long[room];
            rests = new int[room];
            came = new int[room];
        }

        boolean hasRoom() {
            return size < contents.length;
        }

        boolean holds() {
            return size > 0;
        }

        void put(long content, int rest, int time) {
            if (hasRoom()) {
                contents[size] = content;
                rests[size] = rest;
                came[size] = time;
                size++;
            }
        }

        void drop() {
            for (int i = 1; i < size; i++) {
                contents[i - 1] = contents[i];
                rests[i - 1] = rests[i];
                came[i - 1] = came[i];
            }
            if (size > 0) {
                size--;
            }
        }

        long firstContent() {
            return size > 0 ? contents[0] : 0;
        }

        int firstRest() {
            return size > 0 ? rests[0] : 0;
        }

        int firstCame() {
            return size > 0 ? came[0] : 0;
        }
    }

    /** The wires of five channels in the latest tick, and the monitor that looks at them. */
    private static final class Port {
        private final boolean[] valid = new boolean[CHANNELS];
        private final boolean[] ready = new boolean[CHANNELS];
        private final boolean[] held = new boolean[CHANNELS];
        private final long[] contents = new long[CHANNELS];
        private final int[] rests = new int[CHANNELS];
        private final int[] transfers = new int[CHANNELS];
        private final Monitor monitor = new Monitor();

        void reset() {
            silenceAll();
            for (int c = 0; c < CHANNELS; c++) {
                held[c] = false;
                transfers[c] = 0;
            }
            monitor.reset();
        }

        void silence(int channel) {
            valid[channel] = false;
            ready[channel] = false;
            contents[channel] = 0;
            rests[channel] = 0;
        }

        void silenceAll() {
            for (int c = 0; c < CHANNELS; c++) {
                silence(c);
            }
        }

        /** A new tick: of the one before only what is held stays. */
        void begin() {
            for (int c = 0; c < CHANNELS; c++) {
                held[c] = valid[c] && !ready[c];
                if (!held[c]) {
                    silence(c);
                }
            }
        }

        void send(int channel, long content, int rest) {
            valid[channel] = true;
            contents[channel] = content;
            rests[channel] = rest;
        }

        boolean moves(int channel) {
            return valid[channel] && ready[channel];
        }

        int count(int channel) {
            transfers[channel]++;
            return 1;
        }
    }

    /** Looks at the wires of a port tick by tick, till a rule is broken. */
    private static final class Monitor {
        private final Line writes = new Line(MONITOR_ROOM);
        private final Line reads = new Line(MONITOR_ROOM);
        private final boolean[] held = new boolean[CHANNELS];
        private final long[] heldContents = new long[CHANNELS];
        private final int[] heldRests = new int[CHANNELS];
        private int rule;
        private int faultChannel = NONE;
        private int faultTick = NONE;
        private int ticks;

        void reset() {
            writes.size = 0;
            reads.size = 0;
            for (int c = 0; c < CHANNELS; c++) {
                held[c] = false;
            }
            rule = NO_RULE;
            faultChannel = NONE;
            faultTick = NONE;
            ticks = 0;
        }

        /** Of the fault its rule (0), channel (1) and tick (2). */
        int faultPart(int part) {
            if (part == 0) {
                return rule;
            }
            return part == 1 ? faultChannel : faultTick;
        }

        void look(Port port) {
            for (int c = 0; c < CHANNELS && rule == NO_RULE; c++) {
                note(brokenOn(port, c), c);
            }
            if (rule == NO_RULE) {
                takeAnswers(port);
            }
            if (rule == NO_RULE && port.moves(AR)) {
                note(reads.add(port.contents[AR]) == null ? RULE_FULL : NO_RULE, AR);
            }
            if (rule == NO_RULE && port.moves(AW)) {
                note(takeWriteAddress(port.contents[AW]), AW);
            }
            if (rule == NO_RULE && port.moves(W)) {
                note(takeWriteBeat(port.rests[W]), W);
            }
            remember(port);
            ticks++;
        }

        private void remember(Port port) {
            for (int c = 0; c < CHANNELS; c++) {
                held[c] = port.valid[c] && !port.ready[c];
                heldContents[c] = port.contents[c];
                heldRests[c] = port.rests[c];
            }
        }

        private void note(int broken, int channel) {
            if (broken != NO_RULE) {
                rule = broken;
                faultChannel = channel;
                faultTick = ticks;
            }
        }

        private int brokenOn(Port port, int channel) {
            if (held[channel]) {
                return brokenHeld(port, channel);
            }
            if (!port.valid[channel]) {
                return NO_RULE;
            }
            switch (channel) {
                case AW:
                case AR:
                    return Burst.brokenRule(port.contents[channel]);
                case B:
                    return brokenAnswer(port.rests[B]);
                case R:
                    return brokenReadBeat(port.rests[R]);
                default:
                    return NO_RULE;
            }
        }

        private int brokenHeld(Port port, int channel) {
            if (!port.valid[channel]) {
                return RULE_FELL;
            }
            boolean same = port.contents[channel] == heldContents[channel]
                    && port.rests[channel] == heldRests[channel];
            return same ? NO_RULE : RULE_CHANGED;
        }

        private int brokenAnswer(int rest) {
            Burst answered = writes.at(writes.firstAnswerable(restId(rest)));
            if (answered == null) {
                return RULE_NO_WRITE;
            }
            return brokenResponse(rest, answered);
        }

        private int brokenReadBeat(int rest) {
            Burst read = reads.at(reads.firstWithId(restId(rest)));
            if (read == null) {
                return RULE_NO_READ;
            }
            boolean due = read.beats == Burst.lengthOf(read.content) - 1;
            if (due != restLast(rest)) {
                return RULE_LAST;
            }
            return brokenResponse(rest, read);
        }

        private static int brokenResponse(int rest, Burst answered) {
            boolean wrong = restResponse(rest) == EXCLUSIVE_OKAY && !Burst.isExclusive(answered.content);
            return wrong ? RULE_ANSWER : NO_RULE;
        }

        /** Answers go first, so that what they end makes room for what comes in the same tick. */
        private void takeAnswers(Port port) {
            if (port.moves(B)) {
                writes.remove(writes.firstAnswerable(restId(port.rests[B])));
            }
            if (port.moves(R)) {
                takeReadBeat(port.rests[R]);
            }
        }

        private void takeReadBeat(int rest) {
            int i = reads.firstWithId(restId(rest));
            Burst read = reads.at(i);
            if (read == null) {
                return;
            }
            read.beats++;
            if (read.beats >= Burst.lengthOf(read.content)) {
                reads.remove(i);
            }
        }

        private int takeWriteAddress(long content) {
            Burst write = writes.at(writes.firstUnaddressed());
            if (write == null) {
                write = writes.add(content);
            }
            if (write == null) {
                return RULE_FULL;
            }
            write.content = content;
            write.addressed = true;
            int broken = NO_RULE;
            for (int k = 0; k < write.beats && broken == NO_RULE; k++) {
                broken = brokenWriteBeat(write, k);
            }
            return broken;
        }

        private int takeWriteBeat(int rest) {
            Burst write = writes.at(writes.firstUnended());
            if (write == null) {
                write = writes.add(0);
            }
            if (write == null) {
                return RULE_FULL;
            }
            if (write.beats >= MOST_BEATS) {
                return RULE_LAST;
            }
            write.takeBeat(0, rest);
            write.ended = restLast(rest);
            return write.addressed ? brokenWriteBeat(write, write.beats - 1) : NO_RULE;
        }

        private static int brokenWriteBeat(Burst write, int beat) {
            if (beat < 0 || beat >= MOST_BEATS) {
                return NO_RULE;
            }
            int rest = write.rests[beat];
            boolean due = beat == Burst.lengthOf(write.content) - 1;
            if (due != restLast(rest) || beat >= Burst.lengthOf(write.content)) {
                return RULE_LAST;
            }
            int strobes = rest & ALL_LANES;
            return (strobes & ~Burst.beatLanes(write.content, beat)) != 0 ? RULE_STROBES : NO_RULE;
        }
    }

    /** A request of a master, under its ticket. */
    private static final class Request {
        private final Burst burst = new Burst();
        private boolean write;
        private int requested;
        private int sent;
        private int done;
        private int response;

        void start(long content, boolean isWrite, int time) {
            burst.start(content);
            write = isWrite;
            requested = time;
            sent = NONE;
            done = NONE;
            response = OKAY;
        }

        int stage() {
            if (done != NONE) {
                return 2;
            }
            return sent == NONE ? 0 : 1;
        }
    }

    /** A master: its requests, writes and reads each in their order. */
    private static final class Master {
        private final int[] patterns = new int[CHANNELS];
        private boolean early;
        private final Request[] writes = new Request[TICKETS];
        private final Request[] reads = new Request[TICKETS];
        private int writeCount;
        private int readCount;
        private int writesSent;
        private int readsSent;
        private int writesFed;
        private int open;

        Master() {
            Arrays.fill(patterns, EVERY_TICK);
        }

        void resetSettings() {
            Arrays.fill(patterns, EVERY_TICK);
            early = false;
        }

        void dropRequests() {
            writeCount = 0;
            readCount = 0;
            writesSent = 0;
            readsSent = 0;
            writesFed = 0;
            open = 0;
        }

        boolean hasRoom(boolean write) {
            int count = write ? writeCount : readCount;
            int sent = write ? writesSent : readsSent;
            return count < TICKETS && count - sent < MOST_UNSENT;
        }

        void enqueue(Request made) {
            if (!hasRoom(made.write)) {
                return;
            }
            if (made.write) {
                writes[writeCount] = made;
                writeCount++;
            } else {
                reads[readCount] = made;
                readCount++;
            }
            open++;
        }

        private static Request at(Request[] requests, int i, int count) {
            return i < 0 || i >= count || i >= requests.length ? null : requests[i];
        }

        void tell(Port port, int time) {
            tellAddress(port, AW, at(writes, writesSent, writeCount), time);
            tellData(port, at(writes, writesFed, writeCount), time);
            tellAddress(port, AR, at(reads, readsSent, readCount), time);
            port.ready[B] = isOn(patterns[B], time);
            port.ready[R] = isOn(patterns[R], time);
        }

        private void tellAddress(Port port, int channel, Request next, int time) {
            if (!port.held[channel] && next != null && isOn(patterns[channel], time)) {
                port.send(channel, next.burst.content, 0);
            }
        }

        private void tellData(Port port, Request next, int time) {
            if (port.held[W] || next == null || !isOn(patterns[W], time)) {
                return;
            }
            Burst burst = next.burst;
            if ((early || next.sent != NONE) && burst.beats < MOST_BEATS) {
                port.send(W, burst.data[burst.beats], burst.rests[burst.beats]);
            }
        }

        void pass(Port port, int channel, int time) {
            switch (channel) {
                case AW:
                    writesSent += stamp(at(writes, writesSent, writeCount), time);
                    break;
                case W:
                    feed(at(writes, writesFed, writeCount));
                    break;
                case B:
                    takeAnswer(unanswered(writes, writesSent, restId(port.rests[B])), port.rests[B], time);
                    break;
                case AR:
                    readsSent += stamp(at(reads, readsSent, readCount), time);
                    break;
                default:
                    takeBeat(unanswered(reads, readsSent, restId(port.rests[R])), port, time);
                    break;
            }
        }

        /** Notes when an address was sent: how many were. */
        private static int stamp(Request next, int time) {
            if (next == null) {
                return 0;
            }
            next.sent = time;
            return 1;
        }

        private void feed(Request fed) {
            if (fed == null) {
                return;
            }
            fed.burst.beats++;
            if (fed.burst.beats >= Burst.lengthOf(fed.burst.content)) {
                writesFed++;
            }
        }

        private static Request unanswered(Request[] requests, int sent, int id) {
            for (int i = 0; i < sent && i < requests.length; i++) {
                Request r = requests[i];
                if (r != null && r.done == NONE && Burst.idOf(r.burst.content) == id) {
                    return r;
                }
            }
            return null;
        }

        private void takeAnswer(Request write, int rest, int time) {
            if (write != null) {
                write.response = restResponse(rest);
                finish(write, time);
            }
        }

        private void takeBeat(Request read, Port port, int time) {
            if (read == null) {
                return;
            }
            read.burst.takeBeat(port.contents[R], port.rests[R]);
            read.response = Math.max(read.response, restResponse(port.rests[R]));
            if (read.burst.beats >= Burst.lengthOf(read.burst.content)) {
                finish(read, time);
            }
        }

        private void finish(Request answered, int time) {
            answered.done = time;
            open--;
        }
    }

    /** A slave: what it has at once, and the rights that it has given. */
    private static final class Slave {
        private final Memory memory;
        private final int[] patterns = new int[CHANNELS];
        private final Line writes = new Line(SLAVE_ROOM);
        private final Line reads = new Line(SLAVE_ROOM);
        private final int[] rightFrom = new int[IDS];
        private final int[] rightBytes = new int[IDS];
        private int delay;
        private int way;
        private int chosenWrite = NONE;
        private int chosenRead = NONE;
        private int latestSince = NONE;

        Slave(Memory shared) {
            memory = shared;
            Arrays.fill(patterns, EVERY_TICK);
            Arrays.fill(rightFrom, NONE);
        }

        void reset() {
            Arrays.fill(patterns, EVERY_TICK);
            Arrays.fill(rightFrom, NONE);
            writes.size = 0;
            reads.size = 0;
            delay = 0;
            way = 0;
            chosenWrite = NONE;
            chosenRead = NONE;
            latestSince = NONE;
        }

        void tell(Port port, int time) {
            port.ready[AW] = isOn(patterns[AW], time) && writes.hasRoom();
            port.ready[W] = isOn(patterns[W], time) && writes.firstUnended() != NONE;
            port.ready[AR] = isOn(patterns[AR], time) && reads.hasRoom();
            if (!port.held[B]) {
                chosenWrite = isOn(patterns[B], time) ? choose(writes, false, time) : NONE;
                sendAnswer(port, writes.at(chosenWrite));
            }
            if (!port.held[R]) {
                chosenRead = isOn(patterns[R], time) ? choose(reads, true, time) : NONE;
                sendReadBeat(port, reads.at(chosenRead));
            }
        }

        private static void sendAnswer(Port port, Burst chosen) {
            if (chosen != null) {
                port.send(B, 0, answerRest(Burst.idOf(chosen.content), chosen.response, false));
            }
        }

        private static void sendReadBeat(Port port, Burst chosen) {
            if (chosen != null && chosen.beats < MOST_BEATS) {
                port.send(R, chosen.data[chosen.beats], chosen.rests[chosen.beats]);
            }
        }

        private int choose(Line line, boolean ofReads, int time) {
            if (way == 0) {
                return isRipe(line.at(0), time) ? 0 : NONE;
            }
            return way == 2 && ofReads ? chooseNext(time) : chooseLast(line, ofReads, time);
        }

        /** The last one; but a read that has begun goes on. */
        private int chooseLast(Line line, boolean ofReads, int time) {
            int chosen = NONE;
            for (int i = 0; i < line.size; i++) {
                if (mayAnswer(line, i, time)) {
                    chosen = i;
                    if (ofReads && line.bursts[i].beats > 0) {
                        return i;
                    }
                }
            }
            return chosen;
        }

        /** The first one that came behind the read of the latest beat, else the first. */
        private int chooseNext(int time) {
            int chosen = NONE;
            for (int i = 0; i < reads.size; i++) {
                if (mayAnswer(reads, i, time)) {
                    if (reads.bursts[i].since > latestSince) {
                        return i;
                    }
                    chosen = chosen == NONE ? i : chosen;
                }
            }
            return chosen;
        }

        /** It is ripe, and the first one with its ID. */
        private boolean mayAnswer(Line line, int i, int time) {
            Burst asked = line.at(i);
            return isRipe(asked, time) && line.firstWithId(Burst.idOf(asked.content)) == i;
        }

        private boolean isRipe(Burst asked, int time) {
            return asked != null && asked.since != NONE && time > asked.since + delay;
        }

        void pass(Port port, int channel, int time) {
            switch (channel) {
                case AW:
                    writes.add(port.contents[AW]);
                    break;
                case W:
                    doWrite(takeBeat(writes.at(writes.firstUnended()), port, time));
                    break;
                case B:
                    writes.remove(chosenWrite);
                    break;
                case AR:
                    doRead(reads.add(port.contents[AR]), time);
                    break;
                default:
                    passReadBeat(reads.at(chosenRead));
                    break;
            }
        }

        private void passReadBeat(Burst read) {
            if (read == null) {
                return;
            }
            latestSince = read.since;
            read.beats++;
            if (read.beats >= Burst.lengthOf(read.content)) {
                reads.remove(chosenRead);
            }
        }

        /** The write if it is complete with this beat, else null. */
        private static Burst takeBeat(Burst write, Port port, int time) {
            if (write == null) {
                return null;
            }
            write.takeBeat(port.contents[W], port.rests[W]);
            if (write.beats < Burst.lengthOf(write.content)) {
                return null;
            }
            write.ended = true;
            write.since = time;
            return write;
        }

        private void doWrite(Burst write) {
            if (write == null) {
                return;
            }
            boolean exclusive = Burst.isExclusive(write.content);
            boolean allowed = !exclusive || hasRight(write.content);
            if (exclusive) {
                rightFrom[Burst.idOf(write.content)] = NONE;
            }
            if (writesSpoilt(write)) {
                write.response = SLAVE_ERROR;
            } else if (allowed) {
                storeBeats(write);
                write.response = exclusive ? EXCLUSIVE_OKAY : OKAY;
            }
        }

        private boolean hasRight(long content) {
            int id = Burst.idOf(content);
            return rightFrom[id] == Burst.addressOf(content) && rightBytes[id] == rangeOf(content);
        }

        private static int rangeOf(long content) {
            return Burst.lengthOf(content) * Burst.bytesOf(content);
        }

        private boolean writesSpoilt(Burst write) {
            for (int k = 0; k < write.beats; k++) {
                if (memory.isSpoilt(Burst.beatAddress(write.content, k), write.rests[k] & ALL_LANES)) {
                    return true;
                }
            }
            return false;
        }

        private void storeBeats(Burst write) {
            for (int k = 0; k < write.beats; k++) {
                int address = Burst.beatAddress(write.content, k);
                int lanes = write.rests[k] & ALL_LANES;
                memory.store(address, write.data[k], lanes);
                takeRights(address & ~7, lanes);
            }
        }

        private void takeRights(int base, int lanes) {
            for (int id = 0; id < IDS; id++) {
                if (rightFrom[id] != NONE && meetsRight(id, base, lanes)) {
                    rightFrom[id] = NONE;
                }
            }
        }

        private boolean meetsRight(int id, int base, int lanes) {
            for (int lane = 0; lane < 8; lane++) {
                int behind = base + lane - rightFrom[id];
                if ((lanes >> lane & 1) == 1 && behind >= 0 && behind < rightBytes[id]) {
                    return true;
                }
            }
            return false;
        }

        private void doRead(Burst read, int time) {
            if (read == null) {
                return;
            }
            read.since = time;
            int length = Burst.lengthOf(read.content);
            int id = Burst.idOf(read.content);
            boolean exclusive = Burst.isExclusive(read.content);
            boolean sound = true;
            for (int k = 0; k < length; k++) {
                int address = Burst.beatAddress(read.content, k);
                int lanes = Burst.beatLanes(read.content, k);
                boolean spoilt = memory.isSpoilt(address, lanes);
                int response = spoilt ? SLAVE_ERROR : exclusive ? EXCLUSIVE_OKAY : OKAY;
                read.data[k] = spoilt ? 0 : memory.load(address, lanes);
                read.rests[k] = answerRest(id, response, k == length - 1);
                sound = sound && !spoilt;
            }
            if (exclusive && sound) {
                rightFrom[id] = Burst.addressOf(read.content);
                rightBytes[id] = rangeOf(read.content);
            }
        }
    }

    /** What of one master, writes or reads, was moved to targets and is not answered. */
    private static final class UnderWay {
        private final int[] ids = new int[MOST_LIMIT];
        private final int[] targets = new int[MOST_LIMIT];
        private final int[] beatsLeft = new int[MOST_LIMIT];
        private final int[] moved = new int[MOST_LIMIT];
        private int size;

        /** Answers of one ID, and data of one master, must not overtake one another. */
        boolean mayGo(int id, int target, int limit) {
            if (size >= limit || size >= MOST_LIMIT) {
                return false;
            }
            for (int i = 0; i < size; i++) {
                if (targets[i] != target && (ids[i] == id || beatsLeft[i] > 0)) {
                    return false;
                }
            }
            return true;
        }

        void add(int id, int target, int beats, int number) {
            if (size < MOST_LIMIT) {
                ids[size] = id;
                targets[size] = target;
                beatsLeft[size] = beats;
                moved[size] = number;
                size++;
            }
        }

        void removeFirst(int id) {
            int kept = 0;
            boolean found = false;
            for (int i = 0; i < size; i++) {
                if (!found && ids[i] == id) {
                    found = true;
                } else {
                    ids[kept] = ids[i];
                    targets[kept] = targets[i];
                    beatsLeft[kept] = beatsLeft[i];
                    moved[kept] = moved[i];
                    kept++;
                }
            }
            size = kept;
        }

        int firstWithData() {
            for (int i = 0; i < size; i++) {
                if (beatsLeft[i] > 0) {
                    return i;
                }
            }
            return NONE;
        }

        int countTo(int target) {
            int count = 0;
            for (int i = 0; i < size; i++) {
                count += targets[i] == target ? 1 : 0;
            }
            return count;
        }

        /** Whether data for this target are left of one that was moved before that number. */
        boolean waitsBefore(int number, int target) {
            for (int i = 0; i < size; i++) {
                if (targets[i] == target && beatsLeft[i] > 0 && moved[i] < number) {
                    return true;
                }
            }
            return false;
        }
    }

    /** The crossbar itself: rows for masters and targets, and what moves between them. */
    private static final class Switch {
        private final int masters;
        private final int slaves;
        private final int limit;
        private final int[] pages = new int[PAGES];
        private final Row[] masterRows;
        private final Row[] targetRows;
        private final UnderWay[] writes;
        private final UnderWay[] reads;
        private final int[] lastWriters;
        private final int[] lastReaders;
        private final int[] lastAnswerers;
        private final int[] lastGivers;
        private final boolean[] inBurst;
        private int policy;
        private boolean whole;
        private int defaultBeats;
        private int movedWrites;

        Switch(int masterCount, int slaveCount, int writeLimit) {
            masters = masterCount;
            slaves = slaveCount;
            limit = writeLimit;
            masterRows = rowsFor(masterCount);
            targetRows = rowsFor(slaveCount + 1);
            writes = new UnderWay[masterCount];
            reads = new UnderWay[masterCount];
            for (int m = 0; m < masterCount; m++) {
                writes[m] = new UnderWay();
                reads[m] = new UnderWay();
            }
            lastWriters = new int[slaveCount + 1];
            lastReaders = new int[slaveCount + 1];
            lastAnswerers = new int[masterCount];
            lastGivers = new int[masterCount];
            inBurst = new boolean[masterCount];
            reset();
        }

        private static Row[] rowsFor(int count) {
            Row[] rows = new Row[count * CHANNELS];
            for (int i = 0; i < rows.length; i++) {
                int channel = i % CHANNELS;
                rows[i] = new Row(channel == W || channel == R ? 4 : 2);
            }
            return rows;
        }

        void reset() {
            for (int p = 0; p < PAGES; p++) {
                pages[p] = p % slaves;
            }
            for (int i = 0; i < masterRows.length; i++) {
                masterRows[i].size = 0;
            }
            for (int i = 0; i < targetRows.length; i++) {
                targetRows[i].size = 0;
            }
            for (int m = 0; m < masters; m++) {
                writes[m].size = 0;
                reads[m].size = 0;
                inBurst[m] = false;
            }
            Arrays.fill(lastWriters, NONE);
            Arrays.fill(lastReaders, NONE);
            Arrays.fill(lastAnswerers, NONE);
            Arrays.fill(lastGivers, NONE);
            policy = ROUND;
            whole = false;
            defaultBeats = 0;
            movedWrites = 0;
        }

        int targetOf(long content) {
            return pages[Burst.addressOf(content) / PAGE_BYTES];
        }

        int underWayTo(int target, int channel) {
            int count = 0;
            for (int m = 0; m < masters; m++) {
                count += underWay(m, channel).countTo(target);
            }
            return count;
        }

        private UnderWay underWay(int m, int channel) {
            return channel == AW ? writes[m] : reads[m];
        }

        private Row ofMaster(int m, int channel) {
            return masterRows[m * CHANNELS + channel];
        }

        private Row ofTarget(int t, int channel) {
            return targetRows[t * CHANNELS + channel];
        }

        void tellMaster(Port port, int m) {
            for (int c = 0; c < CHANNELS; c++) {
                tellRow(port, c, ofMaster(m, c), toSlave(c));
            }
        }

        void tellSlave(Port port, int s) {
            for (int c = 0; c < CHANNELS; c++) {
                tellRow(port, c, ofTarget(s, c), !toSlave(c));
            }
        }

        private static void tellRow(Port port, int channel, Row row, boolean takes) {
            if (takes) {
                port.ready[channel] = row.hasRoom();
            } else if (row.holds()) {
                port.send(channel, row.firstContent(), row.firstRest());
            }
        }

        void passMaster(Port port, int m, int channel, int time) {
            passRow(port, channel, ofMaster(m, channel), toSlave(channel), time);
        }

        void passSlave(Port port, int s, int channel, int time) {
            passRow(port, channel, ofTarget(s, channel), !toSlave(channel), time);
        }

        private static void passRow(Port port, int channel, Row row, boolean takes, int time) {
            if (takes) {
                row.put(port.contents[channel], port.rests[channel], time);
            } else {
                row.drop();
            }
        }

        void moveAll() {
            for (int t = 0; t <= slaves; t++) {
                moveAddress(t, AW, lastWriters);
            }
            for (int t = 0; t <= slaves; t++) {
                moveAddress(t, AR, lastReaders);
            }
            for (int m = 0; m < masters; m++) {
                moveData(m);
            }
            refuseWrite();
            refuseRead();
            for (int m = 0; m < masters; m++) {
                moveAnswer(m);
            }
            for (int m = 0; m < masters; m++) {
                moveReadBeat(m);
            }
        }

        private void moveAddress(int t, int channel, int[] lastChosen) {
            Row to = ofTarget(t, channel);
            int m = to.hasRoom() ? arbitrate(t, channel, lastChosen[t]) : NONE;
            if (m == NONE) {
                return;
            }
            Row from = ofMaster(m, channel);
            long content = from.firstContent();
            int beats = channel == AW ? Burst.lengthOf(content) : 0;
            underWay(m, channel).add(Burst.idOf(content), t, beats, movedWrites);
            movedWrites++;
            to.put(content + (long) MASTER_IDS * m, 0, 0);
            from.drop();
            lastChosen[t] = m;
        }

        private int arbitrate(int t, int channel, int last) {
            int start = policy == ROUND || policy == MOST_URGENT ? last + 1 : 0;
            int chosen = NONE;
            for (int i = 0; i < masters; i++) {
                int m = (start + i) % masters;
                if (may(m, t, channel) && (chosen == NONE || goesBefore(m, chosen, channel))) {
                    chosen = m;
                }
            }
            return chosen;
        }

        private boolean may(int m, int t, int channel) {
            Row from = ofMaster(m, channel);
            if (!from.holds()) {
                return false;
            }
            long content = from.firstContent();
            return targetOf(content) == t && underWay(m, channel).mayGo(Burst.idOf(content), t, limit);
        }

        /** Whether m goes before another one that the policy's order has ahead of it. */
        private boolean goesBefore(int m, int other, int channel) {
            Row mine = ofMaster(m, channel);
            Row others = ofMaster(other, channel);
            if (policy == EARLIEST) {
                return mine.firstCame() < others.firstCame();
            }
            return policy == MOST_URGENT
                    && Burst.urgencyOf(mine.firstContent()) > Burst.urgencyOf(others.firstContent());
        }

        private void moveData(int m) {
            Row from = ofMaster(m, W);
            UnderWay mine = writes[m];
            int i = mine.firstWithData();
            if (i == NONE || !from.holds()) {
                return;
            }
            int t = mine.targets[i];
            Row to = ofTarget(t, W);
            if (!to.hasRoom() || !isNextFor(t, mine.moved[i])) {
                return;
            }
            to.put(from.firstContent(), from.firstRest(), 0);
            from.drop();
            mine.beatsLeft[i]--;
        }

        private boolean isNextFor(int t, int number) {
            for (int m = 0; m < masters; m++) {
                if (writes[m].waitsBefore(number, t)) {
                    return false;
                }
            }
            return true;
        }

        private void refuseWrite() {
            Row data = ofTarget(slaves, W);
            Row answers = ofTarget(slaves, B);
            Row addresses = ofTarget(slaves, AW);
            boolean last = restLast(data.firstRest());
            if (!data.holds() || last && !answers.hasRoom()) {
                return;
            }
            data.drop();
            if (last) {
                int id = Burst.idOf(addresses.firstContent());
                answers.put(0, answerRest(id, NO_SLAVE, false), 0);
                addresses.drop();
            }
        }

        private void refuseRead() {
            Row addresses = ofTarget(slaves, AR);
            Row beats = ofTarget(slaves, R);
            if (!addresses.holds() || !beats.hasRoom()) {
                return;
            }
            long content = addresses.firstContent();
            defaultBeats++;
            boolean last = defaultBeats >= Burst.lengthOf(content);
            beats.put(0, answerRest(Burst.idOf(content), NO_SLAVE, last), 0);
            if (last) {
                addresses.drop();
                defaultBeats = 0;
            }
        }

        private void moveAnswer(int m) {
            Row to = ofMaster(m, B);
            int t = to.hasRoom() ? giverFor(m, B, lastAnswerers[m]) : NONE;
            if (t == NONE) {
                return;
            }
            int rest = moveBack(ofTarget(t, B), to);
            lastAnswerers[m] = t;
            writes[m].removeFirst(restId(rest));
        }

        private void moveReadBeat(int m) {
            Row to = ofMaster(m, R);
            int t = to.hasRoom() ? readGiverFor(m) : NONE;
            if (t == NONE) {
                return;
            }
            int rest = moveBack(ofTarget(t, R), to);
            lastGivers[m] = t;
            inBurst[m] = !restLast(rest);
            if (restLast(rest)) {
                reads[m].removeFirst(restId(rest));
            }
        }

        private int readGiverFor(int m) {
            int last = lastGivers[m];
            if (whole && inBurst[m] && last != NONE) {
                return gives(last, m, R) ? last : NONE;
            }
            return giverFor(m, R, last);
        }

        private int giverFor(int m, int channel, int last) {
            int targets = slaves + 1;
            for (int i = 0; i < targets; i++) {
                int t = (last + 1 + i) % targets;
                if (gives(t, m, channel)) {
                    return t;
                }
            }
            return NONE;
        }

        private boolean gives(int t, int m, int channel) {
            Row from = ofTarget(t, channel);
            return from.holds() && restId(from.firstRest()) / MASTER_IDS == m;
        }

        /** Moves the first one, with the ID that its master knows: its REST there. */
        private static int moveBack(Row from, Row to) {
            int rest = from.firstRest() & ~(IDS - MASTER_IDS);
            to.put(from.firstContent(), rest, 0);
            from.drop();
            return rest;
        }
    }
}
