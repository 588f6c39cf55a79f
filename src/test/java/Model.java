import java.util.ArrayList;
import java.util.HashMap;
import java.util.List;
import java.util.Map;
import java.util.TreeSet;

/**
 * A second, plain model of the document's sections 1 to 5, to compare answers with: what goes over
 * the bus keeps a hand on its request, so that no ID has to be looked for, and bytes are sets.
 */
final class Model {
    private static final int AW = 0;
    private static final int W = 1;
    private static final int B = 2;
    private static final int AR = 3;
    private static final int R = 4;

    /** A request, from its master to its slave and back. */
    static final class Request {
        int master;
        boolean write;
        int id;
        int address;
        int length;
        int bytes;
        int kind;
        boolean exclusive;
        int urgency;
        long[] data;
        int[] strobes;
        int requested;
        int sent = -1;
        int done = -1;
        int response;
        List<Long> seen = new ArrayList<>();

        int target;
        int moved;

        int came = -1;
        int complete = -1;
        int beatsAtSlave;
        int answer;
        long[] readData;
        int[] readResponses;
        int beatsFromSlave;

        int idAtSlave() {
            return 16 * master + id;
        }

        long content(int shownId) {
            long size = bytes == 1 ? 0 : bytes == 2 ? 1 : bytes == 4 ? 2 : 3;
            return shownId + (address << 6) + ((long) (length - 1) << 22) + (size << 26) + ((long) kind << 28)
                    + (exclusive ? 1L << 30 : 0) + ((long) urgency << 31);
        }

        List<Integer> bytesOf(int beat) {
            int floor = address - address % bytes;
            int x = address;
            if (kind == Check.GROWING && beat > 0) {
                x = floor + beat * bytes;
            } else if (kind == Check.WRAPPING) {
                int least = address - address % (length * bytes);
                x = least + (address - least + beat * bytes) % (length * bytes);
            }
            List<Integer> all = new ArrayList<>();
            for (int b = x; b <= x - x % bytes + bytes - 1; b++) {
                all.add(b);
            }
            return all;
        }

        TreeSet<Integer> allBytes() {
            TreeSet<Integer> all = new TreeSet<>();
            for (int k = 0; k < length; k++) {
                all.addAll(bytesOf(k));
            }
            return all;
        }
    }

    /** A beat, an address or an answer on the wires. */
    static final class Item {
        final Request of;
        final int beat;
        final int response;
        final int came;

        Item(Request of, int beat, int response, int came) {
            this.of = of;
            this.beat = beat;
            this.response = response;
            this.came = came;
        }
    }

    static final class Port {
        final Item[] valid = new Item[5];
        final boolean[] ready = new boolean[5];
        final int[] transfers = new int[5];

        boolean held(int channel) {
            return valid[channel] != null && !ready[channel];
        }
    }

    static final class Slave {
        int delay;
        int way;
        final List<Request> writes = new ArrayList<>();
        final List<Request> reads = new ArrayList<>();
        final Map<Integer, TreeSet<Integer>> rights = new HashMap<>();
        int latestCame = -1;
    }

    static final class Master {
        boolean early;
        final List<Request> writes = new ArrayList<>();
        final List<Request> reads = new ArrayList<>();
        final List<Request> writesUnderWay = new ArrayList<>();
        final List<Request> readsUnderWay = new ArrayList<>();
        int lastB = -1;
        int lastR = -1;
        boolean inBurst;
    }

    final int masterCount;
    final int slaveCount;
    final int limit;
    int policy = 1;
    boolean whole;
    int time;
    final int[] pages = new int[16];
    final int[] memory = new int[65536];
    final boolean[] spoilt = new boolean[65536];
    final int[][][] patterns = new int[2][4][5];
    final Port[][] ports = new Port[2][4];
    final Master[] masters = new Master[4];
    final Slave[] slaves = new Slave[4];
    final List<Request> tickets = new ArrayList<>();
    private final List<List<List<Item>>> masterRows = new ArrayList<>();
    private final List<List<List<Item>>> targetRows = new ArrayList<>();
    private final List<List<Request>> dataOrder = new ArrayList<>();
    private final int[][] lastChosen = new int[5][5];
    private int defaultBeats;

    Model(int masterCount, int slaveCount, int limit) {
        this.masterCount = masterCount;
        this.slaveCount = slaveCount;
        this.limit = limit;
        for (int p = 0; p < 16; p++) {
            pages[p] = p % slaveCount;
        }
        for (int i = 0; i < 5; i++) {
            masterRows.add(emptyRows());
            targetRows.add(emptyRows());
            dataOrder.add(new ArrayList<>());
            for (int c = 0; c < 5; c++) {
                lastChosen[i][c] = -1;
            }
        }
        for (int k = 0; k < 4; k++) {
            masters[k] = new Master();
            slaves[k] = new Slave();
            for (int side = 0; side < 2; side++) {
                ports[side][k] = new Port();
                for (int c = 0; c < 5; c++) {
                    patterns[side][k][c] = 65535;
                }
            }
        }
    }

    private static List<List<Item>> emptyRows() {
        List<List<Item>> rows = new ArrayList<>();
        for (int c = 0; c < 5; c++) {
            rows.add(new ArrayList<>());
        }
        return rows;
    }

    // ---- what is told

    int notDone() {
        int count = 0;
        for (Request r : tickets) {
            count += r.done == -1 ? 1 : 0;
        }
        return count;
    }

    int underWay(int target, boolean write) {
        int count = 0;
        for (Master m : masters) {
            for (Request r : write ? m.writesUnderWay : m.readsUnderWay) {
                count += r.target == target ? 1 : 0;
            }
        }
        return count;
    }

    int rest(int side, int k, int channel) {
        Item item = ports[side][k].valid[channel];
        if (item == null || channel == AW || channel == AR) {
            return 0;
        }
        Request of = item.of;
        int id = side == 0 ? of.id : of.idAtSlave();
        boolean last = item.beat == of.length - 1;
        if (channel == W) {
            return of.strobes[item.beat] + (last ? 256 : 0);
        }
        return id + 64 * item.response + (channel == R && last ? 256 : 0);
    }

    long content(int side, int k, int channel) {
        Item item = ports[side][k].valid[channel];
        if (item == null || channel == B) {
            return 0;
        }
        if (channel == W) {
            return item.of.data[item.beat];
        }
        if (channel == R) {
            return item.of.readData == null ? 0 : item.of.readData[item.beat];
        }
        return item.of.content(side == 0 ? item.of.id : item.of.idAtSlave());
    }

    int unsent(int master, boolean write) {
        int count = 0;
        for (Request r : write ? masters[master].writes : masters[master].reads) {
            count += r.sent == -1 ? 1 : 0;
        }
        return count;
    }

    void add(Request made, long seed, boolean sparse) {
        made.requested = time;
        made.data = new long[made.length];
        made.strobes = new int[made.length];
        long x = seed;
        for (int k = 0; k < made.length; k++) {
            x = x * 6364136223846793005L + 1442695040888963407L;
            for (int a : made.bytesOf(k)) {
                made.data[k] |= x & 255L << 8 * (a % 8);
                if (!sparse || (x >>> 56 + a % 8) % 2 != 0) {
                    made.strobes[k] += 1 << a % 8;
                }
            }
        }
        tickets.add(made);
        (made.write ? masters[made.master].writes : masters[made.master].reads).add(made);
    }

    void forget() {
        tickets.clear();
        for (Master m : masters) {
            m.writes.clear();
            m.reads.clear();
        }
    }

    // ---- a tick

    private boolean on(int side, int k, int channel) {
        return (patterns[side][k][channel] >> time % 16) % 2 != 0;
    }

    int tick() {
        for (int m = 0; m < masterCount; m++) {
            tellMaster(ports[0][m], m);
        }
        for (int s = 0; s < slaveCount; s++) {
            tellSlave(ports[1][s], s);
        }
        int transfers = 0;
        for (int side = 0; side < 2; side++) {
            for (int k = 0; k < (side == 0 ? masterCount : slaveCount); k++) {
                for (int c = 0; c < 5; c++) {
                    Port port = ports[side][k];
                    if (port.valid[c] != null && port.ready[c]) {
                        transfers++;
                        port.transfers[c]++;
                        goOver(side, k, c, port.valid[c]);
                    }
                }
            }
        }
        move();
        time++;
        return transfers;
    }

    private static int room(int channel) {
        return channel == W || channel == R ? 4 : 2;
    }

    private static Item first(List<Item> row) {
        return row.isEmpty() ? null : row.get(0);
    }

    private void tellMaster(Port port, int m) {
        Item[] next = new Item[5];
        next[AW] = port.held(AW) ? port.valid[AW] : on(0, m, AW) ? unsentItem(masters[m].writes) : null;
        next[AR] = port.held(AR) ? port.valid[AR] : on(0, m, AR) ? unsentItem(masters[m].reads) : null;
        next[W] = port.held(W) ? port.valid[W] : on(0, m, W) ? dataItem(masters[m]) : null;
        next[B] = first(masterRows.get(m).get(B));
        next[R] = first(masterRows.get(m).get(R));
        for (int c = 0; c < 5; c++) {
            port.valid[c] = next[c];
            boolean takes = c == B || c == R;
            port.ready[c] = takes ? on(0, m, c) : masterRows.get(m).get(c).size() < room(c);
        }
    }

    private Item unsentItem(List<Request> requests) {
        for (Request r : requests) {
            if (r.sent == -1) {
                return new Item(r, 0, 0, time);
            }
        }
        return null;
    }

    private Item dataItem(Master master) {
        for (Request r : master.writes) {
            if (r.seen.size() < r.length) {
                return master.early || r.sent != -1 ? new Item(r, r.seen.size(), 0, time) : null;
            }
        }
        return null;
    }

    private void tellSlave(Port port, int s) {
        Slave slave = slaves[s];
        Item[] next = new Item[5];
        for (int c : new int[] {AW, W, AR}) {
            next[c] = first(targetRows.get(s).get(c));
        }
        Request write = on(1, s, B) ? chosen(slave, slave.writes) : null;
        Request read = on(1, s, R) ? chosen(slave, slave.reads) : null;
        next[B] = port.held(B) ? port.valid[B] : write == null ? null : new Item(write, 0, write.answer, time);
        next[R] = port.held(R) ? port.valid[R] : read == null ? null
                : new Item(read, read.beatsFromSlave, read.readResponses[read.beatsFromSlave], time);
        boolean[] ready = {on(1, s, AW) && slave.writes.size() < 4, on(1, s, W) && lacking(slave) != null,
            targetRows.get(s).get(B).size() < 2, on(1, s, AR) && slave.reads.size() < 4,
            targetRows.get(s).get(R).size() < 4};
        for (int c = 0; c < 5; c++) {
            port.valid[c] = next[c];
            port.ready[c] = ready[c];
        }
    }

    private static Request lacking(Slave slave) {
        for (Request r : slave.writes) {
            if (r.beatsAtSlave < r.length) {
                return r;
            }
        }
        return null;
    }

    private boolean ripe(Slave slave, Request r) {
        int since = r.write ? r.complete : r.came;
        return since != -1 && time >= since + slave.delay + 1;
    }

    private Request chosen(Slave slave, List<Request> row) {
        if (slave.way == 0) {
            return !row.isEmpty() && ripe(slave, row.get(0)) ? row.get(0) : null;
        }
        List<Request> may = new ArrayList<>();
        TreeSet<Integer> ids = new TreeSet<>();
        for (Request r : row) {
            if (ids.add(r.idAtSlave()) && ripe(slave, r)) {
                may.add(r);
            }
        }
        if (may.isEmpty()) {
            return null;
        }
        boolean reads = row == slave.reads;
        for (Request r : may) {
            if (reads && (slave.way == 2 ? r.came > slave.latestCame : r.beatsFromSlave > 0)) {
                return r;
            }
        }
        return reads && slave.way == 2 ? may.get(0) : may.get(may.size() - 1);
    }

    private void goOver(int side, int k, int channel, Item item) {
        boolean toSlave = channel == AW || channel == W || channel == AR;
        List<Item> row = (side == 0 ? masterRows : targetRows).get(k).get(channel);
        if (toSlave == (side == 0)) {
            row.add(new Item(item.of, item.beat, item.response, time));
        } else {
            row.remove(0);
        }
        if (side == 0) {
            overAtMaster(channel, item);
        } else {
            overAtSlave(slaves[k], channel, item);
        }
    }

    private void overAtMaster(int channel, Item item) {
        Request of = item.of;
        if (channel == AW || channel == AR) {
            of.sent = time;
        } else if (channel == W) {
            of.seen.add(of.data[item.beat]);
        } else if (channel == B) {
            of.response = item.response;
            of.done = time;
        } else {
            of.seen.add(of.readData == null ? 0 : of.readData[item.beat]);
            of.response = Math.max(of.response, item.response);
            of.done = of.seen.size() == of.length ? time : -1;
        }
    }

    private void overAtSlave(Slave slave, int channel, Item item) {
        Request of = item.of;
        if (channel == AW) {
            slave.writes.add(of);
        } else if (channel == AR) {
            of.came = time;
            slave.reads.add(of);
            read(slave, of);
        } else if (channel == W) {
            of.beatsAtSlave++;
            if (of.beatsAtSlave == of.length) {
                of.complete = time;
                write(slave, of);
            }
        } else if (channel == B) {
            slave.writes.remove(of);
        } else {
            of.beatsFromSlave++;
            slave.latestCame = of.came;
            if (of.beatsFromSlave == of.length) {
                slave.reads.remove(of);
            }
        }
    }

    private void read(Slave slave, Request of) {
        of.readData = new long[of.length];
        of.readResponses = new int[of.length];
        boolean sound = true;
        for (int k = 0; k < of.length; k++) {
            boolean bad = false;
            for (int a : of.bytesOf(k)) {
                bad |= spoilt[a];
                of.readData[k] |= (long) memory[a] << 8 * (a % 8);
            }
            of.readResponses[k] = bad ? 2 : of.exclusive ? 1 : 0;
            if (bad) {
                of.readData[k] = 0;
                sound = false;
            }
        }
        if (of.exclusive && sound) {
            slave.rights.put(of.idAtSlave(), of.allBytes());
        }
    }

    private void write(Slave slave, Request of) {
        Map<Integer, Integer> written = new HashMap<>();
        boolean bad = false;
        for (int k = 0; k < of.length; k++) {
            for (int a : of.bytesOf(k)) {
                if ((of.strobes[k] >> a % 8) % 2 != 0) {
                    written.put(a, (int) (of.data[k] >>> 8 * (a % 8)) & 255);
                    bad |= spoilt[a];
                }
            }
        }
        boolean right = of.allBytes().equals(slave.rights.get(of.idAtSlave()));
        if (of.exclusive) {
            slave.rights.remove(of.idAtSlave());
        }
        of.answer = bad ? 2 : of.exclusive && right ? 1 : 0;
        if (!bad && (!of.exclusive || right)) {
            written.forEach((a, v) -> memory[a] = v);
            slave.rights.values().removeIf(bytes -> bytes.stream().anyMatch(written::containsKey));
        }
    }

    // ---- moving

    private void move() {
        for (int channel : new int[] {AW, AR}) {
            for (int t = 0; t <= slaveCount; t++) {
                moveAddress(t, channel);
            }
        }
        for (int m = 0; m < masterCount; m++) {
            moveData(m);
        }
        workAsDefault();
        for (int channel : new int[] {B, R}) {
            for (int m = 0; m < masterCount; m++) {
                moveBack(m, channel);
            }
        }
    }

    private int targetOf(Request r) {
        return pages[r.address / 4096];
    }

    private boolean may(int m, int t, int channel) {
        Item item = first(masterRows.get(m).get(channel));
        if (item == null || targetOf(item.of) != t || targetRows.get(t).get(channel).size() >= 2) {
            return false;
        }
        List<Request> under = channel == AW ? masters[m].writesUnderWay : masters[m].readsUnderWay;
        for (Request r : under) {
            boolean dataToMove = channel == AW && r.moved < r.length;
            if (r.target != t && (r.id == item.of.id || dataToMove)) {
                return false;
            }
        }
        return under.size() < limit;
    }

    private void moveAddress(int t, int channel) {
        List<Integer> candidates = new ArrayList<>();
        for (int i = 1; i <= masterCount; i++) {
            int m = (lastChosen[t][channel] + i + masterCount) % masterCount;
            if (lastChosen[t][channel] == -1) {
                m = i - 1;
            }
            if (may(m, t, channel)) {
                candidates.add(m);
            }
        }
        if (candidates.isEmpty()) {
            return;
        }
        int best = candidates.get(0);
        for (int m : candidates) {
            Item mine = first(masterRows.get(m).get(channel));
            Item its = first(masterRows.get(best).get(channel));
            boolean better = policy == 0 && m < best
                    || policy == 2 && (mine.came < its.came || mine.came == its.came && m < best)
                    || policy == 3 && mine.of.urgency > its.of.urgency;
            best = better ? m : best;
        }
        lastChosen[t][channel] = best;
        Item item = masterRows.get(best).get(channel).remove(0);
        targetRows.get(t).get(channel).add(item);
        item.of.target = t;
        (channel == AW ? masters[best].writesUnderWay : masters[best].readsUnderWay).add(item.of);
        if (channel == AW) {
            dataOrder.get(t).add(item.of);
        }
    }

    private void moveData(int m) {
        List<Item> from = masterRows.get(m).get(W);
        for (Request r : masters[m].writesUnderWay) {
            if (r.moved < r.length) {
                List<Item> to = targetRows.get(r.target).get(W);
                if (!from.isEmpty() && to.size() < 4 && dataOrder.get(r.target).get(0) == r) {
                    to.add(from.remove(0));
                    r.moved++;
                    if (r.moved == r.length) {
                        dataOrder.get(r.target).remove(0);
                    }
                }
                return;
            }
        }
    }

    private void workAsDefault() {
        List<List<Item>> rows = targetRows.get(slaveCount);
        Item data = first(rows.get(W));
        if (data != null) {
            boolean last = data.beat == data.of.length - 1;
            if (!last || rows.get(B).size() < 2) {
                rows.get(W).remove(0);
            }
            if (last && rows.get(B).size() < 2) {
                Item address = rows.get(AW).remove(0);
                rows.get(B).add(new Item(address.of, 0, 3, time));
            }
        }
        Item read = first(rows.get(AR));
        if (read != null && rows.get(R).size() < 4) {
            rows.get(R).add(new Item(read.of, defaultBeats, 3, time));
            defaultBeats++;
            if (defaultBeats == read.of.length) {
                rows.get(AR).remove(0);
                defaultBeats = 0;
            }
        }
    }

    private void moveBack(int m, int channel) {
        List<Item> to = masterRows.get(m).get(channel);
        Master master = masters[m];
        int last = channel == B ? master.lastB : master.lastR;
        for (int i = 1; i <= slaveCount + 1 && to.size() < room(channel); i++) {
            int t = (last + i) % (slaveCount + 1);
            Item item = first(targetRows.get(t).get(channel));
            boolean other = channel == R && whole && master.inBurst && t != last;
            if (item == null || item.of.master != m || other) {
                continue;
            }
            to.add(targetRows.get(t).get(channel).remove(0));
            if (channel == B) {
                master.lastB = t;
                master.writesUnderWay.remove(item.of);
            } else {
                master.lastR = t;
                master.inBurst = item.beat < item.of.length - 1;
                if (!master.inBurst) {
                    master.readsUnderWay.remove(item.of);
                }
            }
            return;
        }
    }
}
