import java.util.Random;
import java.util.TreeSet;

/** Random runs of good calls of all sorts, each answered as a second model of the document answers it. */
final class ModelTest {
    private static final Check CHECK = new Check();
    private static final int REFUSED = -77;

    private final Random random;
    private final String name;
    private final int masters;
    private final int slaves;
    private final Bus bus;
    private final WatchModel[] watchers = {new WatchModel(), new WatchModel()};
    private Model model;

    private ModelTest(int seed) {
        random = new Random(seed);
        name = "seed " + seed + ": ";
        masters = 1 + random.nextInt(4);
        slaves = 1 + random.nextInt(4);
        int limit = 1 + random.nextInt(8);
        bus = new Bus(masters, slaves, limit);
        model = new Model(masters, slaves, limit);
    }

    public static void main(String[] args) {
        int runs = args.length > 0 ? Integer.parseInt(args[0]) : 1000;
        for (int seed = 0; seed < runs; seed++) {
            new ModelTest(seed).run();
        }
        CHECK.end();
    }

    private void run() {
        int busy = random.nextInt(4);
        for (int i = 0; i < 20; i++) {
            set();
        }
        while (bus.callsLeft() > 40) {
            int what = random.nextInt(12);
            if (what < 2 + busy) {
                request();
            } else if (what < 6) {
                tick();
            } else if (what == 6) {
                set();
            } else if (what == 7) {
                watch();
            } else {
                ask();
            }
        }
        CHECK.sound(name + "at the end", bus);
    }

    private int pick(int count) {
        return random.nextInt(count);
    }

    private int pattern() {
        int chance = pick(4);
        return chance == 0 ? random.nextInt(65536) : chance == 1 ? random.nextInt(65536) | random.nextInt(65536) : 65535;
    }

    // ---- what is set

    private void set() {
        switch (pick(8)) {
            case 0:
                map();
                break;
            case 1:
                int policy = pick(4);
                boolean whole = random.nextBoolean();
                CHECK.due(name + "policy", bus.policy(policy, whole), model.policy);
                model.policy = policy;
                model.whole = whole;
                break;
            case 2:
            case 3:
                setPattern();
                break;
            case 4:
                int m = pick(masters);
                boolean on = random.nextBoolean();
                CHECK.due(name + "early", bus.early(m, on), model.masters[m].early);
                model.masters[m].early = on;
                break;
            case 5:
                setWay();
                break;
            case 6:
                setSpoilt();
                break;
            default:
                int address = address();
                int v = pick(256);
                CHECK.due(name + "poke", bus.poke(address, v), model.memory[address]);
                model.memory[address] = v;
                break;
        }
    }

    private void map() {
        int page = pick(16);
        int slave = pick(slaves + 1);
        int want = REFUSED;
        if (model.notDone() == 0) {
            want = model.pages[page] == slaves ? -1 : model.pages[page];
            model.pages[page] = slave;
        }
        int got = REFUSED;
        try {
            got = bus.map(page, slave == slaves ? -1 : slave);
        } catch (IllegalStateException e) {
            CHECK.due(name + "map refused", want, REFUSED);
        }
        CHECK.due(name + "map", got, want);
    }

    private void setPattern() {
        int side = pick(2);
        int k = pick(side == 0 ? masters : slaves);
        int c = pick(5);
        int pattern = pattern();
        int got = side == 0 ? bus.master(k, c, pattern) : bus.slave(k, c, pattern);
        CHECK.due(name + "pattern", got, model.patterns[side][k][c]);
        model.patterns[side][k][c] = pattern;
    }

    private void setWay() {
        int s = pick(slaves);
        int delay = pick(2) == 0 ? 0 : pick(16);
        int way = pick(3);
        Model.Slave slave = model.slaves[s];
        CHECK.due(name + "way", bus.way(s, delay, way), 16 * slave.way + slave.delay);
        slave.delay = delay;
        slave.way = way;
    }

    private void setSpoilt() {
        int from = address();
        int n = 1 + pick(pick(3) == 0 ? 100 : 3);
        boolean on = pick(3) == 0;
        int changed = 0;
        for (int a = from; a < Math.min(65536, from + n); a++) {
            changed += model.spoilt[a] == on ? 0 : 1;
            model.spoilt[a] = on;
        }
        CHECK.due(name + "spoil", bus.spoil(from, n, on), changed);
    }

    // ---- requests

    /** Few places, so that accesses meet; some at the ends of pages. */
    private int address() {
        int page = pick(4) == 0 ? pick(16) : pick(4);
        int inPage = pick(5) == 0 ? 4096 - 1 - pick(64) : pick(pick(2) == 0 ? 16 : 160);
        return 4096 * page + inPage;
    }

    private void request() {
        Model.Request made = new Model.Request();
        made.master = pick(masters);
        made.write = random.nextBoolean();
        made.id = pick(pick(2) == 0 ? 2 : 16);
        made.length = 1 + pick(pick(2) == 0 ? 4 : 16);
        int size = pick(4);
        made.bytes = 1 << size;
        made.kind = pick(pick(20) == 0 ? 4 : 3);
        made.urgency = pick(16);
        made.exclusive = pick(3) == 0;
        made.address = address();
        if (made.exclusive && pick(5) > 0) {
            made.length = 1 << pick(3);
            made.kind = 1;
        }
        int all = made.length * made.bytes;
        if (pick(5) > 0 && (made.exclusive || made.kind == Check.WRAPPING)) {
            made.address -= made.address % (made.exclusive ? all : made.bytes);
        }
        boolean sparse = pick(4) == 0;
        long seed = random.nextLong();
        int how = Check.how(made.length, size, made.kind) + (made.write ? 256 : 0) + (made.exclusive ? 512 : 0)
                + (sparse ? 1024 : 0) + 2048 * made.urgency;
        boolean broken = WatchModel.burstRule(made.content(made.id)) != 0;
        boolean room = model.tickets.size() < 64 && model.unsent(made.master, made.write) < 8;
        int want = broken ? REFUSED : room ? model.tickets.size() : REFUSED - 1;
        int got;
        try {
            got = bus.request(made.master, how, made.address, made.id, seed);
        } catch (IllegalArgumentException e) {
            got = REFUSED;
        } catch (UnsupportedOperationException e) {
            got = REFUSED - 1;
        }
        CHECK.due(name + "request", got, want);
        if (want >= 0) {
            model.add(made, seed, sparse);
        }
    }

    private void tick() {
        if (pick(8) == 0) {
            drain(1 + pick(pick(2) == 0 ? 30 : 1000));
        } else if (pick(30) == 0) {
            forget();
        } else if (pick(200) == 0) {
            clear();
        } else {
            int n = pick(3) == 0 ? 1 : 1 + pick(12);
            int transfers = 0;
            for (int i = 0; i < n; i++) {
                transfers += model.tick();
            }
            CHECK.due(name + "tick", bus.tick(n), transfers);
        }
    }

    private void drain(int n) {
        int ticks = 0;
        while (ticks < n && model.notDone() > 0) {
            model.tick();
            ticks++;
        }
        CHECK.due(name + "drain", bus.drain(n), model.notDone() > 0 ? -1 : ticks);
        if (model.tickets.size() > 50) {
            forget();
        }
    }

    private void forget() {
        int want = model.notDone() > 0 ? REFUSED : model.tickets.size();
        int got;
        try {
            got = bus.forget();
        } catch (IllegalStateException e) {
            got = REFUSED;
        }
        CHECK.due(name + "forget", got, want);
        if (want != REFUSED) {
            model.forget();
        }
    }

    private void clear() {
        bus.clear();
        model = new Model(masters, slaves, model.limit);
        watchers[0] = new WatchModel();
        watchers[1] = new WatchModel();
    }

    // ---- questions

    private void ask() {
        int side = pick(2);
        int k = pick(side == 0 ? masters : slaves);
        int c = pick(5);
        Model.Port port = model.ports[side][k];
        switch (pick(9)) {
            case 0:
                CHECK.due(name + "VALID", bus.wire(side, k, c, 0), port.valid[c] == null ? 0 : 1);
                CHECK.due(name + "READY", bus.wire(side, k, c, 1), port.ready[c] ? 1 : 0);
                break;
            case 1:
                CHECK.due(name + "REST", bus.wire(side, k, c, 2), model.rest(side, k, c));
                break;
            case 2:
                CHECK.due(name + "CONTENT", bus.content(side, k, c), model.content(side, k, c));
                break;
            case 3:
                CHECK.due(name + "port", bus.port(side, k, c), port.transfers[c]);
                break;
            case 4:
                askTarget();
                break;
            case 5:
                int slave = pick(slaves);
                int id = 16 * pick(masters) + pick(3);
                TreeSet<Integer> right = model.slaves[slave].rights.get(id);
                CHECK.due(name + "right", bus.right(slave, id), right == null ? -1 : right.first());
                break;
            case 6:
                int address = address();
                CHECK.due(name + "peek", bus.peek(address), model.memory[address]);
                break;
            default:
                askTicket();
                break;
        }
    }

    private void askTarget() {
        int t = pick(slaves + 1);
        int what = pick(4);
        int want;
        if (what < 2) {
            want = model.underWay(t, what == 0);
        } else if (t == slaves) {
            want = 0;
        } else {
            want = what == 2 ? model.slaves[t].writes.size() : model.slaves[t].reads.size();
        }
        CHECK.due(name + "target", bus.target(t, what), want);
    }

    private void askTicket() {
        CHECK.due(name + "not done", bus.told(2), model.notDone());
        if (model.tickets.isEmpty()) {
            return;
        }
        int t = pick(model.tickets.size());
        Model.Request r = model.tickets.get(t);
        int stage = r.done != -1 ? 2 : r.sent != -1 ? 1 : 0;
        int[] want = {stage, r.response, r.requested, r.sent, r.done, r.seen.size(), model.pages[r.address / 4096]};
        int what = pick(7);
        CHECK.due(name + "ticket " + what, bus.ticket(t, what), want[what]);
        if (!r.seen.isEmpty()) {
            int beat = pick(r.seen.size());
            CHECK.due(name + "data", bus.data(t, beat), r.seen.get(beat));
        }
    }

    // ---- watchers

    /** Wires of a few IDs and short bursts, good ones for the most part, so that runs go on for long. */
    private void watch() {
        int w = pick(2);
        if (pick(40) == 0 || watchers[w].rule != 0 && pick(3) == 0) {
            bus.again(w);
            watchers[w] = new WatchModel();
        }
        for (int i = pick(4); i > 0; i--) {
            int c = pick(5);
            int how = pick(5) == 0 ? pick(4) : 3;
            boolean last = pick(2) == 0;
            long content = c == Check.AW || c == Check.AR ? burst() : pick(2);
            int rest = c == Check.W ? (pick(4) == 0 ? 1 << pick(8) : 0) : pick(3) + (pick(8) == 0 ? 64 * pick(4) : 0);
            rest += last && (c == Check.W || c == Check.R) ? 256 : 0;
            bus.see(w, c, how, content, rest);
            watchers[w].see(c, how, content, rest);
        }
        CHECK.due(name + "judge", bus.judge(w), watchers[w].judge());
        WatchModel watcher = watchers[w];
        int[] want = {watcher.rule, watcher.channel, watcher.tick, watcher.ticks, watcher.writes(), watcher.reads()};
        int what = pick(6);
        CHECK.due(name + "watched " + what, bus.watched(w, what), want[what]);
    }

    private long burst() {
        int how = Check.how(1 + pick(2), pick(4), pick(12) == 0 ? pick(4) : 1) + (pick(4) == 0 ? Check.EXCLUSIVE : 0);
        return Check.address(pick(3), pick(2) * 8 + (pick(4) == 0 ? pick(8) : 0), how);
    }
}
