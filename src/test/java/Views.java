import java.util.ArrayList;
import java.util.List;
import java.util.function.LongSupplier;

/**
 * All that an object can be asked, now and later, as rows of answers. An object answers 512 calls
 * alone, so there are several views, each for an object of its own that came to the same state.
 */
final class Views {
    static final int COUNT = 11;
    static final int MOST_CALLS = 360;

    private static final int MOST_TICKETS = 24;
    private static final long THROWN = Long.MIN_VALUE;

    private final Bus bus;
    private final int masters;
    private final int slaves;
    private final List<Long> answers = new ArrayList<>();

    private Views(Bus bus) {
        this.bus = bus;
        masters = bus.told(3);
        slaves = bus.told(4);
    }

    static List<Long> of(Bus bus, int view) {
        Views views = new Views(bus);
        switch (view) {
            case 0:
                views.tickets();
                break;
            case 1:
                views.ports();
                break;
            case 2:
                views.targetsAndRights();
                break;
            case 3:
                views.settings();
                break;
            case 4:
                views.memory();
                break;
            case 5:
                views.watchers();
                break;
            default:
                views.goingOn(view);
                break;
        }
        return views.answers;
    }

    private void add(LongSupplier call) {
        long answer;
        try {
            answer = call.getAsLong();
        } catch (IndexOutOfBoundsException e) {
            answer = THROWN;
        } catch (IllegalArgumentException e) {
            answer = THROWN + 1;
        } catch (IllegalStateException e) {
            answer = THROWN + 2;
        } catch (UnsupportedOperationException e) {
            answer = THROWN + 3;
        }
        answers.add(answer);
    }

    private void tickets() {
        for (int what = -1; what <= 7; what++) {
            int asked = what;
            add(() -> bus.told(asked));
        }
        int count = bus.told(1);
        int step = 1 + count / MOST_TICKETS;
        for (int t = count - 1; t >= 0; t -= step) {
            int ticket = t;
            for (int what = 0; what < 7; what++) {
                int asked = what;
                add(() -> bus.ticket(ticket, asked));
            }
            int beats = bus.ticket(ticket, 5);
            add(() -> bus.data(ticket, 0));
            add(() -> bus.data(ticket, beats - 1));
            add(() -> bus.data(ticket, beats));
        }
        add(() -> bus.ticket(count, 0));
        add(() -> bus.forget());
        add(() -> bus.request(0, 0, 0, 0, 0));
    }

    private int portCount() {
        return masters + slaves;
    }

    private int side(int port) {
        return port < masters ? Check.MASTER : Check.SLAVE;
    }

    private int k(int port) {
        return port < masters ? port : port - masters;
    }

    private void ports() {
        for (int p = 0; p < portCount(); p++) {
            int side = side(p);
            int k = k(p);
            for (int what = 0; what < 8; what++) {
                int asked = what;
                add(() -> bus.port(side, k, asked));
            }
            for (int c = 0; c < 5; c++) {
                int channel = c;
                add(() -> bus.content(side, k, channel));
                for (int what = 0; what < 3; what++) {
                    int asked = what;
                    add(() -> bus.wire(side, k, channel, asked));
                }
            }
        }
    }

    private void targetsAndRights() {
        for (int t = 0; t <= slaves; t++) {
            for (int what = 0; what < 4; what++) {
                int target = t;
                int asked = what;
                add(() -> bus.target(target, asked));
            }
        }
        for (int i = 0; i < slaves * 64; i++) {
            int slave = i / 64;
            int id = i % 64;
            add(() -> bus.right(slave, id));
        }
    }

    private void settings() {
        add(() -> bus.policy(1, false));
        for (int i = 0; i < 5 * masters; i++) {
            int m = i / 5;
            int c = i % 5;
            add(() -> bus.master(m, c, 65535));
        }
        for (int i = 0; i < 5 * slaves; i++) {
            int s = i / 5;
            int c = i % 5;
            add(() -> bus.slave(s, c, 65535));
        }
        for (int i = 0; i < masters; i++) {
            int m = i;
            add(() -> bus.early(m, false) ? 1 : 0);
        }
        for (int i = 0; i < slaves; i++) {
            int s = i;
            add(() -> bus.way(s, 0, 0));
        }
        add(() -> bus.drain(1000));
        for (int i = 0; i < 16; i++) {
            int page = i;
            add(() -> bus.map(page, 0));
        }
    }

    private void memory() {
        for (int i = 0; i < 16; i++) {
            int page = 4096 * i;
            for (int k = 0; k < 8; k++) {
                int address = page + 65 * k;
                add(() -> bus.peek(address));
            }
            add(() -> bus.peek(page + 4095));
        }
        for (int i = 0; i < 40; i++) {
            int first = 30 * i;
            add(() -> bus.spoil(first, 30, true));
        }
        for (int i = 0; i < 64; i++) {
            int first = 1024 * i;
            add(() -> bus.spoil(first, 1024, true));
        }
    }

    private void watchers() {
        for (int i = 0; i < 12; i++) {
            int watcher = i / 6;
            int what = i % 6;
            add(() -> bus.watched(watcher, what));
        }
        for (int round = 0; round < 4; round++) {
            for (int i = 0; i < 2; i++) {
                int watcher = i;
                add(() -> bus.judge(watcher));
                for (int what = 0; what < 6; what++) {
                    int asked = what;
                    add(() -> bus.watched(watcher, asked));
                }
                bus.see(watcher, Check.R, Check.BOTH, 0, 256 + 64 * round);
            }
        }
    }

    /** The ticks from here on; of each port a channel a tick, another one in each such view. */
    private void goingOn(int first) {
        int ticks = (MOST_CALLS - 40) / (1 + 2 * portCount());
        for (int i = 0; i < ticks; i++) {
            add(() -> bus.tick(1));
            int channel = (i + first) % 5;
            for (int p = 0; p < portCount(); p++) {
                int side = side(p);
                int k = k(p);
                add(() -> bus.content(side, k, channel));
                add(() -> bus.wire(side, k, channel, 2));
            }
        }
        add(() -> bus.drain(1000));
        add(() -> bus.told(0));
        int count = bus.told(1);
        for (int t = Math.max(0, count - 12); t < count; t++) {
            int ticket = t;
            add(() -> bus.ticket(ticket, 1));
            add(() -> bus.ticket(ticket, 4));
        }
    }
}
