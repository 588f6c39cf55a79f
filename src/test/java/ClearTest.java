import java.util.ArrayList;
import java.util.List;

/** Promise 27: behind clear every answer is that of a new object. */
final class ClearTest {
    private static final Check CHECK = new Check();

    public static void main(String[] args) {
        for (int ticks = 1; ticks <= 60; ticks++) {
            for (int way = 0; way < 3; way++) {
                clearedBehind(ticks, way);
            }
        }
        latestBeat();
        defaultRead();
        CHECK.end();
    }

    private static void latestBeat() {
        BusCrossbar bus = new BusCrossbar(1, 1, 8);
        bus.request(0, 0, 0, 0, 0);
        bus.drain(10);
        bus.clear();
        bus.way(0, 0, 2);
        bus.slave(0, Check.R, 0);
        for (int id = 1; id <= 3; id++) {
            bus.request(0, 0, 0, id, 0);
        }
        bus.tick(10);
        bus.slave(0, Check.R, 65535);
        bus.tick(1);
        CHECK.due("no beat went before", bus.wire(Check.SLAVE, 0, Check.R, 2) % 64, 1);
    }

    private static void defaultRead() {
        BusCrossbar bus = new BusCrossbar(1, 1, 8);
        bus.map(0, -1);
        bus.request(0, Check.how(16, 0, Check.GROWING), 0, 0, 0);
        bus.tick(3);
        bus.clear();
        CHECK.due("page 0 is the slave's", bus.map(0, -1), 0);
        bus.request(0, Check.how(4, 0, Check.GROWING), 0, 0, 0);
        CHECK.due("four beats of the default target", bus.drain(50), 5);
        CHECK.sound("default target", bus);
    }

    private static void clearedBehind(int ticks, int way) {
        BusCrossbar used = new BusCrossbar(3, 2, 3);
        BusCrossbar fresh = new BusCrossbar(3, 2, 3);
        use(used, ticks);
        used.clear();
        if (ticks == 17) {
            compare("at once", used, fresh);
        }
        List<Long> again = run(used, way);
        List<Long> first = run(fresh, way);
        for (int i = 0; i < first.size(); i++) {
            CHECK.due("answer " + i + " of the same run behind " + ticks, again.get(i), first.get(i));
        }
        if (ticks == 17) {
            compare("behind the same run", used, fresh);
        }
    }

    /** Changes all that can be changed, and stops in the middle of it. */
    private static void use(BusCrossbar bus, int ticks) {
        bus.map(0, -1);
        bus.map(1, 0);
        for (int m = 0; m < 3; m++) {
            bus.request(m, 512 + Check.how(2, 3, Check.GROWING), 8192, m, 0);
            bus.request(m, 512 + Check.how(2, 3, Check.GROWING), 12288 + 64, m, 0);
            bus.request(m, 256 + Check.how(2, 3, Check.GROWING), 12288, m, 7);
        }
        bus.drain(200);
        bus.forget();
        bus.policy(3, true);
        for (int c = 0; c < 5; c++) {
            bus.master(1, c, 0x5555);
            bus.slave(1, c, 0x3333);
        }
        bus.early(2, true);
        bus.way(0, 9, 2);
        bus.way(1, 3, 1);
        bus.spoil(100, 5000, true);
        bus.poke(3, 3);
        for (int i = 0; i < 8; i++) {
            for (int m = 0; m < 3; m++) {
                bus.request(m, (i & 1) * 256 + Check.how(1 + i, 2, Check.GROWING), 4096 * (i + m), i, i);
            }
        }
        bus.tick(ticks);
        bus.see(0, Check.R, Check.BOTH, 0, 0);
        bus.judge(0);
        bus.see(0, Check.AW, Check.VALID, 0, 0);
        bus.see(1, Check.AR, Check.VALID, 0, 0);
        bus.judge(1);
    }

    private static List<Long> run(BusCrossbar bus, int way) {
        List<Long> answers = new ArrayList<>();
        answers.add((long) bus.right(0, 0) + 1000 * bus.right(1, 0));
        answers.add((long) bus.way(0, 0, way));
        answers.add((long) bus.way(1, 0, way));
        answers.add((long) bus.map(3, -1));
        bus.slave(0, Check.R, 0xF0F0);
        bus.request(0, Check.how(6, 3, Check.GROWING), 3 * 4096, 9, 1);
        for (int i = 0; i < 6; i++) {
            for (int m = 0; m < 3; m++) {
                int how = (i % 2) * 256 + Check.how(1 + i % 3, 3, Check.GROWING) + (i > 3 ? 512 : 0);
                int address = 4096 * ((i + m) % 4);
                long ticket = i > 3 && i % 3 == 2 ? -1 : bus.request(m, how, address, i % 2, i + 10 * m);
                answers.add(ticket);
            }
        }
        bus.slave(1, Check.R, 0xCCCC);
        for (int i = 0; i < 40; i++) {
            answers.add((long) bus.tick(1));
            for (int m = 0; m < 3; m++) {
                for (int c = 0; c < 5; c++) {
                    answers.add(bus.content(0, m, c));
                    answers.add((long) bus.wire(0, m, c, 2));
                }
            }
        }
        answers.add((long) bus.drain(1000));
        answers.add((long) bus.forget());
        answers.add((long) bus.map(3, 1));
        answers.add((long) bus.judge(0));
        answers.add((long) bus.judge(1));
        return answers;
    }

    private static void compare(String when, BusCrossbar used, BusCrossbar fresh) {
        for (int what = 0; what < 7; what++) {
            CHECK.due(when + ": told " + what, used.told(what), fresh.told(what));
        }
        for (int w = 0; w < 2; w++) {
            for (int what = 0; what < 6; what++) {
                CHECK.due(when + ": watched " + what, used.watched(w, what), fresh.watched(w, what));
            }
        }
        for (int p = 0; p < 5; p++) {
            int side = p < 3 ? 0 : 1;
            int k = p % 3;
            for (int what = 0; what < 8; what++) {
                CHECK.due(when + ": port " + p + " " + what, used.port(side, k, what), fresh.port(side, k, what));
            }
            for (int c = 0; c < 5; c++) {
                CHECK.due(when + ": content", used.content(side, k, c), fresh.content(side, k, c));
                for (int what = 0; what < 3; what++) {
                    CHECK.due(when + ": wire", used.wire(side, k, c, what), fresh.wire(side, k, c, what));
                }
            }
        }
        for (int t = 0; t < 3; t++) {
            for (int what = 0; what < 4; what++) {
                CHECK.due(when + ": target", used.target(t, what), fresh.target(t, what));
            }
        }
        for (int a = 0; a < 65536; a++) {
            CHECK.due(when + ": byte " + a, used.peek(a), fresh.peek(a));
        }
        for (int id = 0; id < 64; id++) {
            CHECK.due(when + ": right", used.right(0, id), fresh.right(0, id));
            CHECK.due(when + ": right", used.right(1, id), fresh.right(1, id));
        }
        CHECK.due(when + ": spoilt", used.spoil(0, 65536, false), fresh.spoil(0, 65536, false));
        for (int p = 0; p < 16; p++) {
            CHECK.due(when + ": page " + p, used.map(p, p % 2), fresh.map(p, p % 2));
        }
        for (int m = 0; m < 3; m++) {
            CHECK.due(when + ": early", used.early(m, false) ? 1 : 0, fresh.early(m, false) ? 1 : 0);
        }
        for (int p = 0; p < 25; p++) {
            int k = p / 5;
            int c = p % 5;
            if (k < 3) {
                CHECK.due(when + ": pattern", used.master(k, c, 65535), fresh.master(k, c, 65535));
            } else {
                CHECK.due(when + ": pattern", used.slave(k - 3, c, 65535), fresh.slave(k - 3, c, 65535));
            }
        }
        CHECK.due(when + ": way 0", used.way(0, 0, 0), fresh.way(0, 0, 0));
        CHECK.due(when + ": way 1", used.way(1, 0, 0), fresh.way(1, 0, 0));
        CHECK.due(when + ": policy", used.policy(1, false), fresh.policy(1, false));
    }
}
