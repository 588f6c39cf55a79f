/** A BusCrossbar that a test may ask no more calls than the document promises to answer. */
final class Bus {
    static final int MOST_CALLS = 512;

    private final BusCrossbar bus;
    private int calls;

    Bus(int masters, int slaves, int limit) {
        bus = new BusCrossbar(masters, slaves, limit);
    }

    private BusCrossbar next() {
        calls++;
        if (calls > MOST_CALLS) {
            throw new AssertionError("a test asks more calls than are promised");
        }
        return bus;
    }

    int callsLeft() {
        return MOST_CALLS - calls;
    }

    int map(int page, int slave) {
        return next().map(page, slave);
    }

    int policy(int policy, boolean whole) {
        return next().policy(policy, whole);
    }

    int master(int master, int channel, int pattern) {
        return next().master(master, channel, pattern);
    }

    boolean early(int master, boolean on) {
        return next().early(master, on);
    }

    int slave(int slave, int channel, int pattern) {
        return next().slave(slave, channel, pattern);
    }

    int way(int slave, int delay, int way) {
        return next().way(slave, delay, way);
    }

    int spoil(int address, int n, boolean on) {
        return next().spoil(address, n, on);
    }

    int poke(int address, int v) {
        return next().poke(address, v);
    }

    int peek(int address) {
        return next().peek(address);
    }

    int request(int master, int how, int address, int id, long seed) {
        return next().request(master, how, address, id, seed);
    }

    int tick(int n) {
        return next().tick(n);
    }

    int drain(int n) {
        return next().drain(n);
    }

    int ticket(int ticket, int what) {
        return next().ticket(ticket, what);
    }

    long data(int ticket, int beat) {
        return next().data(ticket, beat);
    }

    int forget() {
        return next().forget();
    }

    int wire(int side, int k, int channel, int what) {
        return next().wire(side, k, channel, what);
    }

    long content(int side, int k, int channel) {
        return next().content(side, k, channel);
    }

    int port(int side, int k, int what) {
        return next().port(side, k, what);
    }

    int target(int target, int what) {
        return next().target(target, what);
    }

    int right(int slave, int id) {
        return next().right(slave, id);
    }

    int told(int what) {
        return next().told(what);
    }

    void see(int watcher, int channel, int how, long content, int rest) {
        next().see(watcher, channel, how, content, rest);
    }

    int judge(int watcher) {
        return next().judge(watcher);
    }

    int watched(int watcher, int what) {
        return next().watched(watcher, what);
    }

    void again(int watcher) {
        next().again(watcher);
    }

    void clear() {
        next().clear();
    }
}
