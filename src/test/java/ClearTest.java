/** Promise 27: behind clear every answer is that of a new object. */
final class ClearTest {
    private static final Check CHECK = new Check();

    public static void main(String[] args) {
        for (int view = 0; view < Views.COUNT; view++) {
            cleared(view);
            clearedWhenFull(view);
            for (int ticks = 1; ticks <= 60; ticks++) {
                clearedBehind(ticks, view);
            }
        }
        latestBeat();
        defaultRead();
        CHECK.end();
    }

    private static void latestBeat() {
        Bus bus = new Bus(1, 1, 8);
        bus.request(0, 0, 0, 0, 0);
        bus.drain(10);
        bus.clear();
        bus.way(0, 0, 2);
        bus.slave(0, Check.R, 0);
        for (int id = 1; id <= 3; id++) {
            bus.request(0, 0, 0, id, 0);
        }
        bus.tick(10);
        bus.slave(0, Check.R, 65535);
        bus.tick(1);
        CHECK.due("no beat went before", bus.wire(Check.SLAVE, 0, Check.R, 2) % 64, 1);
    }

    private static void defaultRead() {
        Bus bus = new Bus(1, 1, 8);
        bus.map(0, -1);
        bus.request(0, Check.how(16, 0, Check.GROWING), 0, 0, 0);
        bus.tick(3);
        bus.clear();
        CHECK.due("page 0 is the slave's", bus.map(0, -1), 0);
        bus.request(0, Check.how(4, 0, Check.GROWING), 0, 0, 0);
        CHECK.due("four beats of the default target", bus.drain(50), 5);
        CHECK.sound("default target", bus);
    }

    private static void cleared(int view) {
        Bus used = new Bus(3, 2, 3);
        Bus unused = new Bus(3, 2, 3);
        use(used, 17);
        used.clear();
        unused.clear();
        CHECK.same("view " + view + " at once", Views.of(used, view), Views.of(new Bus(3, 2, 3), view));
        CHECK.same("view " + view + " of one unused", Views.of(unused, view), Views.of(new Bus(3, 2, 3), view));
    }

    private static void clearedWhenFull(int view) {
        Bus used = new Bus(2, 2, 8);
        fill(used);
        used.clear();
        used.clear();
        CHECK.same("view " + view + " when full", Views.of(used, view), Views.of(new Bus(2, 2, 8), view));
    }

    /** All tickets, rows, slaves and a watcher are full, and every byte is spoilt. */
    private static void fill(Bus bus) {
        bus.spoil(0, 65536, true);
        for (int m = 0; m < 2; m++) {
            bus.master(m, Check.B, 0);
            bus.master(m, Check.R, 0);
        }
        for (int i = 0; i < 64; i++) {
            int sort = i / 2 % 2 * Check.WRITE;
            bus.request(i % 2, sort + Check.how(4, 3, Check.GROWING), 4096 * (i / 4 % 2), i / 4, i);
            if (i % 32 == 31) {
                bus.tick(50);
            }
        }
        for (int i = 0; i < 16; i++) {
            bus.see(1, Check.AR, Check.BOTH, 0, 0);
            bus.see(1, Check.AW, Check.BOTH, 0, 0);
            bus.judge(1);
        }
        bus.see(1, Check.W, Check.VALID, 1, 1);
        bus.judge(1);
        CHECK.due("64 tickets", bus.told(1), 64);
        CHECK.due("16 writes", bus.watched(1, 4), 16);
        CHECK.due("16 reads", bus.watched(1, 5), 16);
        CHECK.due("four writes at once", bus.target(0, 2), 4);
        CHECK.due("four reads at once", bus.target(0, 3), 4);
    }

    private static void clearedBehind(int ticks, int view) {
        Bus used = new Bus(3, 2, 3);
        Bus fresh = new Bus(3, 2, 3);
        use(used, ticks);
        used.clear();
        start(used, ticks % 3);
        start(fresh, ticks % 3);
        CHECK.same("view " + view + " behind " + ticks, Views.of(used, view), Views.of(fresh, view));
    }

    /** Changes all that can be changed, and stops in the middle of it. */
    private static void use(Bus bus, int ticks) {
        bus.map(0, -1);
        bus.map(1, 0);
        for (int m = 0; m < 3; m++) {
            bus.request(m, 512 + Check.how(2, 3, Check.GROWING), 8192, m, 0);
            bus.request(m, 512 + Check.how(2, 3, Check.GROWING), 12288 + 64, m, 0);
            bus.request(m, 256 + Check.how(2, 3, Check.GROWING), 12288, m, 7);
        }
        bus.drain(200);
        bus.forget();
        bus.policy(3, true);
        for (int c = 0; c < 5; c++) {
            bus.master(1, c, 0x5555);
            bus.slave(1, c, 0x3333);
        }
        bus.early(2, true);
        bus.way(0, 9, 2);
        bus.way(1, 3, 1);
        bus.spoil(100, 5000, true);
        bus.poke(3, 3);
        for (int i = 0; i < 8; i++) {
            for (int m = 0; m < 3; m++) {
                bus.request(m, (i & 1) * 256 + Check.how(1 + i, 2, Check.GROWING), 4096 * (i + m), i, i);
            }
        }
        bus.tick(ticks);
        bus.see(0, Check.R, Check.BOTH, 0, 0);
        bus.judge(0);
        bus.see(0, Check.AW, Check.VALID, 0, 0);
        bus.see(1, Check.AR, Check.VALID, 0, 0);
        bus.judge(1);
    }

    private static void start(Bus bus, int way) {
        bus.way(0, 0, way);
        bus.way(1, 0, way);
        bus.map(3, -1);
        bus.slave(0, Check.R, 0xF0F0);
        bus.slave(1, Check.R, 0xCCCC);
        bus.request(0, Check.how(6, 3, Check.GROWING), 3 * 4096, 9, 1);
        for (int i = 0; i < 5; i++) {
            for (int m = 0; m < 3; m++) {
                int how = (i % 2) * 256 + Check.how(1 + i % 3, 3, Check.GROWING) + (i == 3 ? 512 : 0);
                bus.request(m, how, 4096 * ((i + m) % 4), i % 2, i + 10 * m);
            }
        }
    }
}
