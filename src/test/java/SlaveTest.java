/** Promises 7, 8 and 21: slaves' delays and ways, spoilt bytes, and rights. */
final class SlaveTest {
    private static final Check CHECK = new Check();
    private static final int ONE = Check.how(1, 0, Check.GROWING);
    private static final int EIGHT = Check.how(1, 3, Check.GROWING);

    public static void main(String[] args) {
        delays();
        delayOfThoseThatCame();
        fourAtOnce();
        waysOfReads();
        waysOfWrites();
        latestBeat();
        chosenStaysHeld();
        readAtOnce();
        writeWhenComplete();
        spoiltReads();
        spoiltWrites();
        rightsAreGivenAndUsed();
        rightsOfOthers();
        rightsOfOtherBytes();
        rightsAndSpoiltBytes();
        rightsTakenByWrites();
        rightsOfEachId();
        rightsAndPages();
        wrongRights();
        CHECK.end();
    }

    private static int run(Bus bus, int master, int how, int address, int id) {
        int ticket = bus.request(master, how, address, id, 99);
        CHECK.due("it is done", bus.drain(300) > 0 ? 1 : 0, 1);
        CHECK.sound("run", bus);
        return ticket;
    }

    private static void delays() {
        for (int delay = 0; delay <= 15; delay++) {
            for (int way = 0; way < 3; way++) {
                Bus bus = new Bus(1, 1, 1);
                bus.way(0, delay, way);
                bus.request(0, ONE, 0, 0, 0);
                CHECK.due("read with delay " + delay, bus.drain(100), 4 + delay);
                bus.request(0, Check.WRITE + Check.how(3, 0, Check.GROWING), 0, 0, 0);
                CHECK.due("write with delay " + delay, bus.drain(100), 7 + delay);
            }
        }
    }

    private static void delayOfThoseThatCame() {
        Bus bus = new Bus(1, 1, 1);
        bus.way(0, 15, 0);
        int ticket = bus.request(0, ONE, 0, 0, 0);
        bus.tick(8);
        bus.way(0, 7, 0);
        bus.drain(100);
        CHECK.due("came in 1, ripe in 9, done in 10", bus.ticket(ticket, 4), 10);
    }

    private static void fourAtOnce() {
        Bus bus = new Bus(1, 1, 8);
        bus.slave(0, Check.B, 0);
        bus.slave(0, Check.R, 0);
        for (int i = 0; i < 6; i++) {
            bus.request(0, Check.WRITE + ONE, 0, i, 0);
            bus.request(0, ONE, 0, i, 0);
        }
        bus.tick(30);
        CHECK.due("four writes", bus.target(0, 2), 4);
        CHECK.due("four reads", bus.target(0, 3), 4);
        CHECK.due("AW waits", bus.wire(Check.SLAVE, 0, Check.AW, 0) * 2 + bus.wire(Check.SLAVE, 0, Check.AW, 1), 2);
        CHECK.due("AR waits", bus.wire(Check.SLAVE, 0, Check.AR, 0) * 2 + bus.wire(Check.SLAVE, 0, Check.AR, 1), 2);
        CHECK.due("W: no write lacks beats", bus.wire(Check.SLAVE, 0, Check.W, 1), 0);
    }

    /** Bursts with these IDs have come to a slave and are ripe: the order of what it answers. */
    private static String answers(int way, int sort, int length, int... ids) {
        Bus bus = new Bus(1, 1, 8);
        int back = sort == 0 ? Check.R : Check.B;
        bus.way(0, 0, way);
        bus.slave(0, back, 0);
        for (int id : ids) {
            bus.request(0, sort + Check.how(length, 0, Check.GROWING), 0, id, 0);
        }
        bus.tick(30);
        bus.slave(0, back, 65535);
        return order(bus, back);
    }

    private static String order(Bus bus, int back) {
        StringBuilder order = new StringBuilder();
        for (int i = 0; i < 40; i++) {
            bus.tick(1);
            if (bus.wire(Check.SLAVE, 0, back, 0) + bus.wire(Check.SLAVE, 0, back, 1) == 2) {
                order.append(bus.wire(Check.SLAVE, 0, back, 2) % 16);
            }
        }
        CHECK.due("all is done", bus.told(2), 0);
        CHECK.sound("order", bus);
        return order.toString();
    }

    private static void waysOfReads() {
        CHECK.due("way 0", answers(0, 0, 2, 1, 2, 3), "112233");
        CHECK.due("way 1", answers(1, 0, 2, 1, 2, 3), "332211");
        CHECK.due("way 2", answers(2, 0, 2, 1, 2, 3), "123123");
        CHECK.due("way 1, the same ID", answers(1, 0, 2, 1, 2, 1), "221111");
        CHECK.due("way 2, the same ID", answers(2, 0, 2, 1, 2, 1), "121211");
        CHECK.due("way 2, the same ID first", answers(2, 0, 2, 1, 1, 2), "121121");
    }

    private static void waysOfWrites() {
        CHECK.due("way 0", answers(0, Check.WRITE, 1, 1, 2, 3, 4), "1234");
        CHECK.due("way 1", answers(1, Check.WRITE, 1, 1, 2, 3, 4), "4321");
        CHECK.due("way 2", answers(2, Check.WRITE, 1, 1, 2, 3, 4), "4321");
        CHECK.due("way 1, the same ID", answers(1, Check.WRITE, 1, 1, 2, 1, 2), "2211");
    }

    private static void latestBeat() {
        Bus bus = new Bus(1, 1, 8);
        bus.slave(0, Check.R, 0);
        for (int id = 1; id <= 3; id++) {
            bus.request(0, Check.how(2, 0, Check.GROWING), 0, id, 0);
        }
        bus.tick(15);
        bus.slave(0, Check.R, 1);
        bus.tick(2);
        CHECK.due("one beat by way 0", bus.port(Check.SLAVE, 0, Check.R), 1);
        bus.way(0, 0, 2);
        bus.slave(0, Check.R, 65535);
        CHECK.due("behind that beat", order(bus, Check.R), "23123");
        Bus begun = new Bus(1, 1, 8);
        begun.way(0, 0, 1);
        begun.slave(0, Check.R, 8);
        begun.request(0, Check.how(2, 0, Check.GROWING), 0, 1, 0);
        begun.tick(4);
        begun.request(0, Check.how(2, 0, Check.GROWING), 0, 2, 0);
        begun.tick(10);
        begun.slave(0, Check.R, 65535);
        CHECK.due("the read that has begun", order(begun, Check.R), "122");
    }

    private static void chosenStaysHeld() {
        Bus bus = new Bus(1, 1, 8);
        bus.way(0, 0, 1);
        bus.master(0, Check.R, 0);
        bus.master(0, Check.B, 0);
        for (int i = 0; i < 6; i++) {
            bus.request(0, Check.how(2, 0, Check.GROWING), 0, i, 0);
            bus.request(0, Check.WRITE + ONE, 0, i, 0);
        }
        bus.tick(30);
        int answer = bus.wire(Check.SLAVE, 0, Check.B, 2);
        int beat = bus.wire(Check.SLAVE, 0, Check.R, 2);
        CHECK.due("B is held", bus.wire(Check.SLAVE, 0, Check.B, 0) * 2 + bus.wire(Check.SLAVE, 0, Check.B, 1), 2);
        CHECK.due("R is held", bus.wire(Check.SLAVE, 0, Check.R, 0) * 2 + bus.wire(Check.SLAVE, 0, Check.R, 1), 2);
        bus.way(0, 15, 0);
        bus.slave(0, Check.B, 0);
        bus.slave(0, Check.R, 0);
        bus.tick(3);
        CHECK.due("B stays", bus.wire(Check.SLAVE, 0, Check.B, 0) * 1000 + bus.wire(Check.SLAVE, 0, Check.B, 2), 1000 + answer);
        CHECK.due("R stays", bus.wire(Check.SLAVE, 0, Check.R, 0) * 1000 + bus.wire(Check.SLAVE, 0, Check.R, 2), 1000 + beat);
        bus.master(0, Check.R, 65535);
        bus.master(0, Check.B, 65535);
        bus.slave(0, Check.B, 65535);
        bus.slave(0, Check.R, 65535);
        CHECK.due("all is done", bus.drain(100) > 0 ? 1 : 0, 1);
        CHECK.sound("held", bus);
    }

    private static void readAtOnce() {
        Bus bus = new Bus(1, 1, 8);
        bus.way(0, 10, 0);
        bus.poke(3, 1);
        int ticket = bus.request(0, ONE, 3, 0, 0);
        bus.tick(2);
        bus.poke(3, 2);
        bus.spoil(3, 1, true);
        bus.drain(100);
        CHECK.due("the byte when the address came", bus.data(ticket, 0), 1L << 24);
        CHECK.due("it was not spoilt then", bus.ticket(ticket, 1), 0);
    }

    private static void writeWhenComplete() {
        Bus bus = new Bus(1, 1, 8);
        bus.request(0, Check.WRITE + Check.how(2, 3, Check.GROWING), 0, 0, 7);
        bus.tick(3);
        CHECK.due("the first beat came", bus.port(Check.SLAVE, 0, Check.W), 1);
        CHECK.due("nothing is written", bus.peek(0), 0);
        bus.tick(1);
        CHECK.due("the first beat's byte", bus.peek(0), Check.laneByte(Check.seedAfter(7, 1), 0));
        CHECK.due("the second beat's byte", bus.peek(15), Check.laneByte(Check.seedAfter(7, 2), 15));
    }

    private static void spoiltReads() {
        Bus bus = new Bus(1, 1, 8);
        for (int a = 0; a < 16; a++) {
            bus.poke(a, 17);
        }
        bus.spoil(9, 1, true);
        int ticket = run(bus, 0, Check.how(4, 2, Check.GROWING), 0, 1);
        CHECK.due("greatest response", bus.ticket(ticket, 1), 2);
        CHECK.due("a sound beat", bus.data(ticket, 1), 0x1111111100000000L);
        CHECK.due("a spoilt beat", bus.data(ticket, 2), 0);
        CHECK.due("the beat behind", bus.data(ticket, 3), 0x1111111100000000L);
        ticket = run(bus, 0, Check.how(2, 2, Check.GROWING), 10, 1);
        CHECK.due("byte 9 is not read", bus.ticket(ticket, 1), 0);
        CHECK.due("its bytes", bus.data(ticket, 0), 0x11110000L);
    }

    private static void spoiltWrites() {
        Bus bus = new Bus(1, 1, 8);
        bus.spoil(12, 1, true);
        int ticket = run(bus, 0, Check.WRITE + Check.how(4, 2, Check.GROWING), 0, 1);
        CHECK.due("the slave's error", bus.ticket(ticket, 1), 2);
        for (int a = 0; a < 16; a++) {
            CHECK.due("nothing is written", bus.peek(a), 0);
        }
        ticket = run(bus, 0, Check.WRITE + Check.how(3, 2, Check.GROWING), 0, 1);
        CHECK.due("no spoilt byte", bus.ticket(ticket, 1), 0);
        CHECK.due("written", bus.peek(11), Check.laneByte(Check.seedAfter(99, 3), 11));
        for (int lane = 0; lane < 8; lane++) {
            Bus sparse = new Bus(1, 1, 8);
            sparse.spoil(lane, 1, true);
            ticket = run(sparse, 0, Check.WRITE + Check.SPARSE + EIGHT, 0, 1);
            boolean strobe = (Check.seedAfter(99, 1) >>> 56 + lane & 1) == 1;
            CHECK.due("a spoilt byte on lane " + lane, sparse.ticket(ticket, 1), strobe ? 2 : 0);
        }
    }

    private static void rightsAreGivenAndUsed() {
        Bus bus = new Bus(3, 2, 8);
        int how = Check.how(4, 2, Check.GROWING) + Check.EXCLUSIVE;
        int read = run(bus, 2, how, 4096 + 32, 5);
        CHECK.due("exclusive okay", bus.ticket(read, 1), 1);
        CHECK.due("the right", bus.right(1, 37), 4096 + 32);
        CHECK.due("no right of another ID", bus.right(1, 5), -1);
        CHECK.due("no right at another slave", bus.right(0, 37), -1);
        bus.poke(4096 + 32, 1);
        CHECK.due("rights stay with a poke", bus.right(1, 37), 4096 + 32);
        int write = run(bus, 2, Check.WRITE + how, 4096 + 32, 5);
        CHECK.due("write: exclusive okay", bus.ticket(write, 1), 1);
        CHECK.due("written", bus.peek(4096 + 32), Check.laneByte(Check.seedAfter(99, 1), 32));
        CHECK.due("the right is gone", bus.right(1, 37), -1);
        bus.poke(4096 + 32, 1);
        write = run(bus, 2, Check.WRITE + how, 4096 + 32, 5);
        CHECK.due("without the right: okay", bus.ticket(write, 1), 0);
        CHECK.due("nothing is written", bus.peek(4096 + 32), 1);
    }

    private static void rightsOfOthers() {
        Bus bus = new Bus(2, 1, 8);
        int how = EIGHT + Check.EXCLUSIVE;
        run(bus, 0, how, 8, 1);
        run(bus, 1, how, 8, 1);
        CHECK.due("two have it", bus.right(0, 1) + bus.right(0, 17), 16);
        int write = run(bus, 0, Check.WRITE + how, 8, 1);
        CHECK.due("one writes", bus.ticket(write, 1), 1);
        CHECK.due("which takes the other's away", bus.right(0, 17), -1);
        run(bus, 1, how, 8, 1);
        write = run(bus, 0, Check.WRITE + how, 8, 1);
        CHECK.due("one without a right", bus.ticket(write, 1), 0);
        CHECK.due("takes none of others", bus.right(0, 17), 8);
        run(bus, 1, EIGHT, 8, 1);
        CHECK.due("nor does a read", bus.right(0, 17), 8);
    }

    private static void rightsOfOtherBytes() {
        Bus bus = new Bus(1, 1, 8);
        int how = EIGHT + Check.EXCLUSIVE;
        run(bus, 0, how, 8, 1);
        run(bus, 0, how, 64, 1);
        CHECK.due("in place of the one before", bus.right(0, 1), 64);
        run(bus, 0, how, 16, 2);
        CHECK.due("another ID keeps its own", bus.right(0, 1), 64);
        int write = run(bus, 0, Check.WRITE + how, 8, 1);
        CHECK.due("not for these bytes", bus.ticket(write, 1), 0);
        CHECK.due("taken away in any case", bus.right(0, 1), -1);
        write = run(bus, 0, Check.WRITE + Check.EXCLUSIVE + Check.how(2, 3, Check.GROWING), 16, 2);
        CHECK.due("not for more bytes", bus.ticket(write, 1), 0);
        run(bus, 0, how, 16, 2);
        write = run(bus, 0, Check.WRITE + Check.EXCLUSIVE + Check.how(4, 1, Check.WRAPPING), 16, 2);
        CHECK.due("the same bytes by another burst", bus.ticket(write, 1), 1);
    }

    private static void rightsAndSpoiltBytes() {
        Bus bus = new Bus(1, 1, 8);
        int how = Check.how(2, 3, Check.GROWING) + Check.EXCLUSIVE;
        run(bus, 0, how, 64, 1);
        bus.spoil(12, 1, true);
        int read = run(bus, 0, how, 0, 1);
        CHECK.due("a spoilt byte", bus.ticket(read, 1), 2);
        CHECK.due("gives no right, and takes none", bus.right(0, 1), 64);
        run(bus, 0, how, 64, 2);
        bus.spoil(70, 1, true);
        int write = run(bus, 0, Check.WRITE + how, 64, 1);
        CHECK.due("exclusive write of a spoilt byte", bus.ticket(write, 1), 2);
        CHECK.due("takes its own right", bus.right(0, 1), -1);
        CHECK.due("but none of others", bus.right(0, 2), 64);
        write = run(bus, 0, Check.WRITE + Check.how(2, 3, Check.GROWING), 64, 1);
        CHECK.due("another write of a spoilt byte", bus.ticket(write, 1), 2);
        CHECK.due("takes none either", bus.right(0, 2), 64);
    }

    private static void rightsTakenByWrites() {
        int[] addresses = {15, 16, 31, 32};
        int[] rights = {16, -1, -1, 16};
        for (int i = 0; i < addresses.length; i++) {
            Bus bus = new Bus(2, 1, 8);
            run(bus, 0, Check.how(2, 3, Check.GROWING) + Check.EXCLUSIVE, 16, 1);
            run(bus, 1, Check.WRITE + ONE, addresses[i], 1);
            CHECK.due("right behind a write of " + addresses[i], bus.right(0, 1), rights[i]);
        }
        Bus own = new Bus(1, 1, 8);
        run(own, 0, EIGHT + Check.EXCLUSIVE, 16, 1);
        run(own, 0, Check.WRITE + ONE, 16, 1);
        CHECK.due("its own write takes it, too", own.right(0, 1), -1);
        for (int lane = 0; lane < 8; lane++) {
            Bus sparse = new Bus(2, 1, 8);
            run(sparse, 0, ONE + Check.EXCLUSIVE, lane, 1);
            run(sparse, 1, Check.WRITE + Check.SPARSE + EIGHT, 0, 1);
            boolean strobe = (Check.seedAfter(99, 1) >>> 56 + lane & 1) == 1;
            CHECK.due("sparse write of lane " + lane, sparse.right(0, 1), strobe ? -1 : lane);
        }
    }

    private static void rightsOfEachId() {
        Bus bus = new Bus(4, 1, 8);
        for (int id = 0; id < 64; id++) {
            bus.request(id / 16, EIGHT + Check.EXCLUSIVE, 8 * id, id % 16, 0);
            bus.drain(100);
            CHECK.due("right of " + id, bus.right(0, id), 8 * id);
            if (id % 32 == 31) {
                bus.forget();
            }
        }
        run(bus, 0, Check.WRITE + Check.how(16, 3, Check.GROWING), 0, 0);
        run(bus, 3, Check.WRITE + Check.how(1, 0, Check.GROWING), 8 * 63, 0);
        for (int id = 0; id < 64; id++) {
            CHECK.due("right of " + id + " then", bus.right(0, id), id < 16 || id == 63 ? -1 : 8 * id);
        }
    }

    private static void rightsAndPages() {
        Bus bus = new Bus(1, 2, 8);
        run(bus, 0, EIGHT + Check.EXCLUSIVE, 0, 1);
        bus.map(0, 1);
        run(bus, 0, Check.WRITE + EIGHT, 0, 1);
        CHECK.due("slave 0 did not see the write", bus.right(0, 1), 0);
        bus.map(0, -1);
        int write = run(bus, 0, Check.WRITE + Check.EXCLUSIVE + EIGHT, 0, 1);
        CHECK.due("no slave", bus.ticket(write, 1), 3);
        CHECK.due("the right stays", bus.right(0, 1), 0);
    }

    private static void wrongRights() {
        Bus bus = new Bus(1, 2, 8);
        CHECK.noIndex("slave -1", () -> bus.right(-1, 0));
        CHECK.noIndex("slave before id", () -> bus.right(2, 64));
        CHECK.badNumber("id -1", () -> bus.right(0, -1));
        CHECK.badNumber("id 64", () -> bus.right(1, 64));
        CHECK.due("id 63", bus.right(1, 63), -1);
    }
}
