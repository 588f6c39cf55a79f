import java.util.ArrayList;
import java.util.List;

/**
 * Every call that is refused: the last numbers that are allowed, the first that are not, which
 * exception goes before which, and that all later calls answer as if it had not been made.
 */
final class RefusalTest {
    private static final Check CHECK = new Check();
    private static final Class<IndexOutOfBoundsException> INDEX = IndexOutOfBoundsException.class;
    private static final Class<IllegalStateException> STATE = IllegalStateException.class;
    private static final Class<IllegalArgumentException> NUMBER = IllegalArgumentException.class;
    private static final Class<UnsupportedOperationException> ROOM = UnsupportedOperationException.class;
    private static final int LEAST = Integer.MIN_VALUE;
    private static final int MOST = Integer.MAX_VALUE;

    private static final int MASTERS = 2;
    private static final int SLAVES = 3;
    private static final int ONE = Check.how(1, 0, Check.GROWING);

    /** Objects that were used in ways that let a change of anything be seen. */
    private enum State { FRESH, BUSY, DONE, UNSENT, FULL }

    private static final State[] ALL = State.values();
    private static final State[] NOT_DONE = {State.BUSY, State.UNSENT, State.FULL};

    private interface Call {
        void on(Bus bus);
    }

    private interface CallWith {
        void on(Bus bus, int number);
    }

    /** For each state, what each view of it shows. */
    private static final List<List<List<Long>>> SEEN = new ArrayList<>();

    public static void main(String[] args) {
        lookAtStates();
        boundsOfSettings();
        boundsOfMemory();
        boundsOfRequests();
        boundsOfTickets();
        boundsOfPorts();
        boundsOfWatchers();
        requestsNotDone();
        burstsThatBreakARule();
        noRoom();
        indexFirst();
        stateAndNumberBeforeOthers();
        sizes();
        CHECK.end();
    }

    private static void lookAtStates() {
        for (State state : ALL) {
            List<List<Long>> views = new ArrayList<>();
            for (int view = 0; view < Views.COUNT; view++) {
                views.add(Views.of(made(state), view));
            }
            SEEN.add(views);
        }
    }

    private static Bus made(State state) {
        Bus bus = new Bus(MASTERS, SLAVES, 4);
        switch (state) {
            case FRESH:
                return bus;
            case BUSY:
                makeBusy(bus);
                return bus;
            case DONE:
                makeBusy(bus);
                bus.drain(1000);
                return bus;
            case UNSENT:
                makeUnsent(bus, 8);
                return bus;
            default:
                makeFull(bus);
                return bus;
        }
    }

    private static void makeBusy(Bus bus) {
        bus.map(9, -1);
        bus.map(10, 0);
        for (int m = 0; m < MASTERS; m++) {
            bus.request(m, Check.EXCLUSIVE + Check.how(2, 3, Check.GROWING), 64, m, 0);
            bus.request(m, Check.EXCLUSIVE + Check.how(2, 3, Check.GROWING), 4096 + 64, m, 0);
            bus.request(m, Check.WRITE + Check.how(4, 3, Check.GROWING), 128 + 32 * m, m, 5);
        }
        bus.drain(200);
        bus.forget();
        bus.policy(2, true);
        bus.master(0, Check.AR, 0xEEEE);
        bus.master(1, Check.R, 0x7777);
        bus.slave(1, Check.B, 0x3FFF);
        bus.slave(2, Check.AW, 0x5555);
        bus.early(1, true);
        bus.way(0, 3, 2);
        bus.way(1, 9, 1);
        bus.spoil(1000, 77, true);
        bus.poke(65, 9);
        for (int i = 0; i < 6; i++) {
            int size = i % 4;
            bus.request(0, (i % 2) * Check.WRITE + Check.how(2 + i, size, Check.GROWING), 4096 * i, i, i);
            bus.request(1, (i % 3 == 0 ? Check.WRITE : 0) + Check.how(3, 3, Check.GROWING), 4096 * (11 - i), i, i);
        }
        bus.tick(9);
        watchSome(bus);
    }

    /** Watcher 0 keeps, holds and is told something; watcher 1 has found a fault. */
    private static void watchSome(Bus bus) {
        bus.see(0, Check.AR, Check.BOTH, Check.address(5, 64, ONE), 0);
        bus.see(0, Check.AW, Check.BOTH, Check.address(6, 64, ONE), 0);
        bus.judge(0);
        bus.see(0, Check.W, Check.VALID, 77, 257);
        bus.judge(0);
        bus.see(0, Check.W, Check.BOTH, 77, 257);
        bus.see(0, Check.R, Check.BOTH, 0, 256 + 5);
        bus.judge(1);
        bus.see(1, Check.B, Check.VALID, 0, 3);
        bus.judge(1);
        bus.see(1, Check.AR, Check.BOTH, 0, 0);
    }

    /** So many writes and reads of master 0 whose address was not transferred. */
    private static void makeUnsent(Bus bus, int count) {
        bus.master(0, Check.AW, 0);
        bus.master(0, Check.AR, 0);
        for (int i = 0; i < count; i++) {
            bus.request(0, Check.WRITE + ONE, 64 * i, i, i);
            bus.request(0, ONE, 64 * i, i, i);
        }
        bus.tick(3);
    }

    private static void makeFull(Bus bus) {
        for (int i = 0; i < 48; i++) {
            bus.request(i % 2, (i / 2 % 2) * Check.WRITE + ONE, 4096 * (i % 16), i % 16, i);
            if (i % 16 == 15) {
                bus.drain(500);
            }
        }
        makeUnsent(bus, 8);
    }

    /** The call throws this in these states, and then every view is that of an object without it. */
    private static void refused(String name, Class<? extends RuntimeException> want, State[] states, Call call) {
        for (State state : states) {
            for (int view = 0; view < Views.COUNT; view++) {
                Bus bus = made(state);
                CHECK.fails(state + ": " + name, want, () -> call.on(bus));
                List<Long> seen = SEEN.get(state.ordinal()).get(view);
                CHECK.same(state + ": behind " + name + ", view " + view, Views.of(bus, view), seen);
            }
        }
    }

    private static void taken(String name, int number, CallWith call) {
        try {
            call.on(made(State.DONE), number);
        } catch (RuntimeException e) {
            CHECK.due(name + " " + number, e.toString(), "no exception");
        }
    }

    /** The numbers from least to most are taken, and none else. */
    private static void bound(String name, int least, int most, Class<? extends RuntimeException> want, CallWith call) {
        taken(name, least, call);
        taken(name, most, call);
        for (int wrong : new int[] {least - 1, most + 1, LEAST, MOST}) {
            if (wrong < least || wrong > most) {
                refused(name + " " + wrong, want, ALL, bus -> call.on(bus, wrong));
            }
        }
    }

    private static void boundsOfSettings() {
        boundWhenDone("map: page", 0, 15, (bus, x) -> bus.map(x, 1));
        boundWhenDone("map: slave", -1, SLAVES - 1, (bus, x) -> bus.map(3, x));
        bound("policy", 0, 3, NUMBER, (bus, x) -> bus.policy(x, false));
        bound("policy, whole", 0, 3, NUMBER, (bus, x) -> bus.policy(x, true));
        bound("master: master", 0, MASTERS - 1, INDEX, (bus, x) -> bus.master(x, Check.R, 1));
        bound("master: channel", 0, 4, INDEX, (bus, x) -> bus.master(1, x, 1));
        bound("early", 0, MASTERS - 1, INDEX, (bus, x) -> bus.early(x, true));
        bound("early, off", 0, MASTERS - 1, INDEX, (bus, x) -> bus.early(x, false));
        bound("slave: slave", 0, SLAVES - 1, INDEX, (bus, x) -> bus.slave(x, Check.R, 1));
        bound("slave: channel", 0, 4, INDEX, (bus, x) -> bus.slave(2, x, 1));
        bound("way: slave", 0, SLAVES - 1, INDEX, (bus, x) -> bus.way(x, 1, 1));
        bound("way: delay", 0, 15, NUMBER, (bus, x) -> bus.way(0, x, 1));
        bound("way: way", 0, 2, NUMBER, (bus, x) -> bus.way(0, 1, x));
    }

    /** A wrong index goes before a request that is not done, so it is the answer in all states. */
    private static void boundWhenDone(String name, int least, int most, CallWith call) {
        bound(name, least, most, INDEX, call);
        refused(name + " " + least + " too early", STATE, NOT_DONE, bus -> call.on(bus, least));
        refused(name + " " + most + " too early", STATE, NOT_DONE, bus -> call.on(bus, most));
    }

    private static void boundsOfMemory() {
        bound("spoil: address", 0, 65535, INDEX, (bus, x) -> bus.spoil(x, 1, true));
        bound("spoil: address, off", 0, 65535, INDEX, (bus, x) -> bus.spoil(x, 1, false));
        bound("spoil: n", 1, MOST, NUMBER, (bus, x) -> bus.spoil(5, x, true));
        bound("spoil: n, off", 1, MOST, NUMBER, (bus, x) -> bus.spoil(1000, x, false));
        bound("spoil: n at the last address", 1, MOST, NUMBER, (bus, x) -> bus.spoil(65535, x, true));
        bound("poke: address", 0, 65535, INDEX, (bus, x) -> bus.poke(x, 1));
        bound("poke: v", 0, 255, NUMBER, (bus, x) -> bus.poke(65, x));
        bound("peek: address", 0, 65535, INDEX, (bus, x) -> bus.peek(x));
    }

    private static void boundsOfRequests() {
        bound("request: master", 0, MASTERS - 1, INDEX, (bus, x) -> bus.request(x, ONE, 0, 0, 0));
        bound("request: address", 0, 65535, INDEX, (bus, x) -> bus.request(1, ONE, x, 0, 0));
        bound("request: id", 0, 15, NUMBER, (bus, x) -> bus.request(1, ONE, 0, x, 0));
        bound("request: id of a write", 0, 15, NUMBER, (bus, x) -> bus.request(1, Check.WRITE + ONE, 0, x, 0));
        taken("request: how", 0, (bus, x) -> bus.request(1, x, 0, 0, 0));
        taken("request: the greatest how that breaks no rule", 32767 - 64, (bus, x) -> bus.request(1, x, 0, 0, 0));
        for (int wrong : new int[] {-1, 32768, 32768 + ONE, -32768, 65536, LEAST, MOST}) {
            refused("request: how " + wrong, NUMBER, ALL, bus -> bus.request(1, wrong, 0, 0, 0));
        }
        bound("tick", 1, 100, NUMBER, (bus, x) -> bus.tick(x));
        bound("drain", 1, 1000, NUMBER, (bus, x) -> bus.drain(x));
    }

    private static void boundsOfTickets() {
        int made = made(State.DONE).told(1);
        taken("ticket", 0, (bus, x) -> bus.ticket(x, 0));
        taken("ticket", made - 1, (bus, x) -> bus.ticket(x, 0));
        taken("data: ticket", made - 1, (bus, x) -> bus.data(x, 0));
        for (int wrong : new int[] {-1, 64, LEAST, MOST}) {
            refused("ticket " + wrong, INDEX, ALL, bus -> bus.ticket(wrong, 0));
            refused("data: ticket " + wrong, INDEX, ALL, bus -> bus.data(wrong, 0));
        }
        refused("the first ticket that is not there", INDEX, ALL, bus -> bus.ticket(bus.told(1), 0));
        refused("data of the first ticket that is not there", INDEX, ALL, bus -> bus.data(bus.told(1), 0));
        taken("ticket: what", 0, (bus, x) -> bus.ticket(0, x));
        taken("ticket: what", 6, (bus, x) -> bus.ticket(0, x));
        for (int wrong : new int[] {-1, 7, LEAST, MOST}) {
            State[] withTickets = {State.BUSY, State.DONE, State.UNSENT, State.FULL};
            refused("ticket: what " + wrong, NUMBER, withTickets, bus -> bus.ticket(0, wrong));
            refused("data: beat " + wrong + " too many", INDEX, withTickets, bus -> bus.data(0, 16 + (wrong & 1)));
        }
        for (int wrong : new int[] {-1, 2, LEAST, MOST}) {
            refused("data: beat " + wrong + " of two", INDEX, new State[] {State.DONE}, bus -> bus.data(0, wrong));
        }
        refused("data: a beat that was not transferred", INDEX, NOT_DONE, bus -> bus.data(bus.told(1) - 1, 0));
    }

    private static void boundsOfPorts() {
        for (int s = 0; s < 2; s++) {
            int side = s;
            int last = side == Check.MASTER ? MASTERS - 1 : SLAVES - 1;
            bound("wire: k", 0, last, INDEX, (bus, x) -> bus.wire(side, x, 0, 0));
            bound("wire: channel", 0, 4, INDEX, (bus, x) -> bus.wire(side, 0, x, 0));
            bound("wire: what", 0, 2, NUMBER, (bus, x) -> bus.wire(side, 0, 0, x));
            bound("content: k", 0, last, INDEX, (bus, x) -> bus.content(side, x, 0));
            bound("content: channel", 0, 4, INDEX, (bus, x) -> bus.content(side, 0, x));
            bound("port: k", 0, last, INDEX, (bus, x) -> bus.port(side, x, 0));
            bound("port: what", 0, 7, NUMBER, (bus, x) -> bus.port(side, 0, x));
        }
        bound("wire: side", 0, 1, INDEX, (bus, x) -> bus.wire(x, 0, 0, 0));
        bound("content: side", 0, 1, INDEX, (bus, x) -> bus.content(x, 0, 0));
        bound("port: side", 0, 1, INDEX, (bus, x) -> bus.port(x, 0, 0));
        bound("target", 0, SLAVES, INDEX, (bus, x) -> bus.target(x, 0));
        bound("target: what", 0, 3, NUMBER, (bus, x) -> bus.target(0, x));
        bound("target: what of the DEFAULT one", 0, 3, NUMBER, (bus, x) -> bus.target(SLAVES, x));
        bound("right: slave", 0, SLAVES - 1, INDEX, (bus, x) -> bus.right(x, 0));
        bound("right: id", 0, 63, NUMBER, (bus, x) -> bus.right(0, x));
    }

    private static void boundsOfWatchers() {
        bound("see: watcher", 0, 1, INDEX, (bus, x) -> bus.see(x, 0, 0, 0, 0));
        bound("see: channel", 0, 4, INDEX, (bus, x) -> bus.see(0, x, 3, 0, 0));
        for (int c = 0; c < 5; c++) {
            int channel = c;
            bound("see: how", 0, 3, NUMBER, (bus, x) -> bus.see(0, channel, x, 1, 1));
        }
        for (int h = 0; h < 4; h++) {
            int how = h;
            bound("see: REST with how " + how, 0, 511, NUMBER, (bus, x) -> bus.see(0, Check.W, how, 1, x));
        }
        bound("judge", 0, 1, INDEX, (bus, x) -> bus.judge(x));
        bound("watched: watcher", 0, 1, INDEX, (bus, x) -> bus.watched(x, 0));
        bound("watched: what", 0, 5, NUMBER, (bus, x) -> bus.watched(0, x));
        bound("again", 0, 1, INDEX, (bus, x) -> bus.again(x));
    }

    private static void requestsNotDone() {
        refused("map of the page as it is", STATE, NOT_DONE, bus -> bus.map(0, 0));
        refused("map to none", STATE, NOT_DONE, bus -> bus.map(15, -1));
        refused("forget", STATE, NOT_DONE, bus -> bus.forget());
    }

    private static void burstsThatBreakARule() {
        int[][] wrong = {
            {Check.how(1, 0, 3), 0},
            {Check.how(9, 0, Check.WRAPPING), 0},
            {Check.how(4, 1, Check.WRAPPING), 1},
            {Check.how(2, 0, Check.GROWING), 65535},
            {Check.how(1, 0, Check.FIXED) + Check.EXCLUSIVE, 0},
            {Check.how(5, 0, Check.GROWING) + Check.EXCLUSIVE, 0},
            {Check.how(4, 0, Check.GROWING) + Check.EXCLUSIVE, 2}};
        for (int[] burst : wrong) {
            refused("a read that breaks a rule", NUMBER, ALL, bus -> bus.request(1, burst[0], burst[1], 0, 7));
            int write = Check.WRITE + Check.SPARSE + burst[0];
            refused("a write that breaks a rule", NUMBER, ALL, bus -> bus.request(1, write, burst[1], 0, 7));
        }
    }

    private static void noRoom() {
        State[] full = {State.FULL};
        State[] eight = {State.FULL, State.UNSENT};
        refused("a 65th ticket, a read", ROOM, full, bus -> bus.request(1, ONE, 0, 0, 7));
        refused("a 65th ticket, a write", ROOM, full, bus -> bus.request(1, Check.WRITE + ONE, 0, 0, 7));
        refused("a ninth write", ROOM, eight, bus -> bus.request(0, Check.WRITE + ONE, 0, 0, 7));
        refused("a ninth read", ROOM, eight, bus -> bus.request(0, ONE, 0, 0, 7));
    }

    private static void indexFirst() {
        refused("map: page 16, a request not done", INDEX, NOT_DONE, bus -> bus.map(16, 0));
        refused("map: slave 3, a request not done", INDEX, NOT_DONE, bus -> bus.map(0, SLAVES));
        refused("way: slave, delay and way", INDEX, ALL, bus -> bus.way(SLAVES, 16, 3));
        refused("spoil: address and n", INDEX, ALL, bus -> bus.spoil(65536, 0, true));
        refused("poke: address and v", INDEX, ALL, bus -> bus.poke(-1, 256));
        refused("request: master and all else", INDEX, ALL, bus -> bus.request(MASTERS, -1, 0, 16, 0));
        refused("request: address and how", INDEX, ALL, bus -> bus.request(0, 32768, 65536, 0, 0));
        refused("request: address and id", INDEX, ALL, bus -> bus.request(0, ONE, -1, 16, 0));
        refused("request: address and rule", INDEX, ALL, bus -> bus.request(0, Check.how(1, 0, 3), 65536, 0, 0));
        refused("ticket: ticket and what", INDEX, ALL, bus -> bus.ticket(64, 7));
        refused("wire: side and what", INDEX, ALL, bus -> bus.wire(2, 0, 0, 3));
        refused("wire: k and what", INDEX, ALL, bus -> bus.wire(1, SLAVES, 0, 3));
        refused("wire: channel and what", INDEX, ALL, bus -> bus.wire(1, 0, 5, 3));
        refused("port: side and what", INDEX, ALL, bus -> bus.port(-1, 0, 8));
        refused("port: k and what", INDEX, ALL, bus -> bus.port(0, MASTERS, 8));
        refused("target: target and what", INDEX, ALL, bus -> bus.target(SLAVES + 1, 4));
        refused("right: slave and id", INDEX, ALL, bus -> bus.right(SLAVES, 64));
        refused("see: watcher, how and REST", INDEX, ALL, bus -> bus.see(2, 0, 4, 0, 512));
        refused("see: channel, how and REST", INDEX, ALL, bus -> bus.see(0, 5, -1, 0, -1));
        refused("watched: watcher and what", INDEX, ALL, bus -> bus.watched(2, 6));
    }

    private static void stateAndNumberBeforeOthers() {
        State[] full = {State.FULL};
        refused("how, and no room", NUMBER, full, bus -> bus.request(0, 32768, 0, 0, 0));
        refused("id, and no room", NUMBER, full, bus -> bus.request(0, ONE, 0, 16, 0));
        refused("rule, and no room", NUMBER, full, bus -> bus.request(0, Check.how(1, 0, 3), 0, 0, 0));
        refused("master, and no room", INDEX, full, bus -> bus.request(-1, ONE, 0, 0, 0));
        refused("address, and no room", INDEX, full, bus -> bus.request(0, ONE, 65536, 0, 0));
    }

    /** Of each size that an object can have: the last master, slave and target, and the next ones. */
    private static void sizes() {
        for (int masters = 1; masters <= 4; masters++) {
            for (int slaves = 1; slaves <= 4; slaves++) {
                sizeOfMasters(new Bus(masters, slaves, 1), masters);
                sizeOfSlaves(new Bus(masters, slaves, 1), slaves);
            }
        }
    }

    private static void ends(String name, int count, CallWith call, Bus bus) {
        call.on(bus, count - 1);
        CHECK.noIndex(name + " " + count, () -> call.on(bus, count));
    }

    private static void sizeOfMasters(Bus bus, int masters) {
        ends("master", masters, (b, x) -> b.master(x, 0, 65535), bus);
        ends("early", masters, (b, x) -> b.early(x, false), bus);
        ends("request", masters, (b, x) -> b.request(x, 0, 0, 0, 0), bus);
        ends("wire of master", masters, (b, x) -> b.wire(0, x, 0, 0), bus);
        ends("content of master", masters, (b, x) -> b.content(0, x, 0), bus);
        ends("port of master", masters, (b, x) -> b.port(0, x, 0), bus);
        CHECK.due("one ticket alone", bus.told(1), 1);
    }

    private static void sizeOfSlaves(Bus bus, int slaves) {
        ends("map", slaves, (b, x) -> b.map(0, x), bus);
        ends("slave", slaves, (b, x) -> b.slave(x, 0, 65535), bus);
        ends("way", slaves, (b, x) -> b.way(x, 0, 0), bus);
        ends("right", slaves, (b, x) -> b.right(x, 0), bus);
        ends("target", slaves + 1, (b, x) -> b.target(x, 0), bus);
        ends("wire of slave", slaves, (b, x) -> b.wire(1, x, 0, 0), bus);
        ends("content of slave", slaves, (b, x) -> b.content(1, x, 0), bus);
        ends("port of slave", slaves, (b, x) -> b.port(1, x, 0), bus);
    }
}
