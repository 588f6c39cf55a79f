/** Promises 1 to 10: a new object, and what is set. */
final class SettingsTest {
    private static final Check CHECK = new Check();

    public static void main(String[] args) {
        newObject();
        nearestNumbers();
        map();
        policy();
        patterns();
        early();
        way();
        spoil();
        pokeAndPeek();
        CHECK.end();
    }

    private static void newObject() {
        Bus bus = new Bus(3, 2, 5);
        int[] told = {0, 0, 0, 3, 2, 5, 1};
        for (int what = 0; what < told.length; what++) {
            CHECK.due("new: told " + what, bus.told(what), told[what]);
        }
        for (int c = 0; c < 5; c++) {
            CHECK.due("new: valid", bus.wire(Check.MASTER, 2, c, 0), 0);
            CHECK.due("new: ready", bus.wire(Check.SLAVE, 1, c, 1), 0);
            CHECK.due("new: content", bus.content(Check.MASTER, 0, c), 0);
            CHECK.due("new: transfers", bus.port(Check.SLAVE, 0, c), 0);
        }
        CHECK.due("new: rule", bus.port(Check.MASTER, 0, 5), 0);
        CHECK.due("new: right", bus.right(0, 0), -1);
    }

    private static void nearestNumbers() {
        int[][] made = {{0, 0, 0, 1, 1, 1}, {-7, 5, 9, 1, 4, 8}, {5, -1, 8, 4, 1, 8},
            {Integer.MIN_VALUE, Integer.MAX_VALUE, 2, 1, 4, 2}, {4, 4, Integer.MAX_VALUE, 4, 4, 8}};
        for (int[] row : made) {
            Bus bus = new Bus(row[0], row[1], row[2]);
            CHECK.due("masters " + row[0], bus.told(3), row[3]);
            CHECK.due("slaves " + row[1], bus.told(4), row[4]);
            CHECK.due("limit " + row[2], bus.told(5), row[5]);
        }
    }

    private static void map() {
        Bus bus = new Bus(1, 3, 4);
        for (int page = 0; page < 16; page++) {
            CHECK.due("first slave of page " + page, bus.map(page, -1), page % 3);
        }
        CHECK.due("map of none", bus.map(7, 2), -1);
        CHECK.due("map of a slave", bus.map(7, 2), 2);
        CHECK.noIndex("page -1", () -> bus.map(-1, 0));
        CHECK.noIndex("page 16", () -> bus.map(16, 0));
        CHECK.noIndex("slave -2", () -> bus.map(0, -2));
        CHECK.noIndex("slave 3", () -> bus.map(0, 3));
        int ticket = bus.request(0, Check.how(1, 0, Check.GROWING), 7 * 4096, 0, 0);
        CHECK.due("target 2", bus.ticket(ticket, 6), 2);
        CHECK.badState("map while a request is open", () -> bus.map(7, 0));
        CHECK.noIndex("page before state", () -> bus.map(16, 0));
        CHECK.noIndex("slave before state", () -> bus.map(0, 3));
        bus.drain(100);
        CHECK.due("read by slave 2", bus.port(Check.SLAVE, 2, Check.AR), 1);
        CHECK.due("a map that throws changes nothing", bus.map(7, -1), 2);
        CHECK.due("default target", bus.ticket(ticket, 6), 3);
    }

    private static void policy() {
        Bus bus = new Bus(1, 1, 1);
        CHECK.due("first policy", bus.policy(3, true), 1);
        CHECK.due("policy", bus.policy(0, false), 3);
        CHECK.badNumber("policy -1", () -> bus.policy(-1, true));
        CHECK.badNumber("policy 4", () -> bus.policy(4, true));
        CHECK.due("policy stays", bus.told(6), 0);
    }

    private static void patterns() {
        Bus bus = new Bus(2, 3, 1);
        for (int c = 0; c < 5; c++) {
            CHECK.due("master's first pattern", bus.master(1, c, 0x12340 + c), 65535);
            CHECK.due("slave's first pattern", bus.slave(2, c, -1 - c), 65535);
        }
        for (int c = 0; c < 5; c++) {
            CHECK.due("master's 16 bits", bus.master(1, c, 0), 0x2340 + c);
            CHECK.due("other master's", bus.master(0, c, 7), 65535);
            CHECK.due("slave's 16 bits", bus.slave(2, c, 0), 65535 - c);
            CHECK.due("other slave's", bus.slave(1, c, 7), 65535);
        }
        CHECK.noIndex("master -1", () -> bus.master(-1, 0, 0));
        CHECK.noIndex("master 2", () -> bus.master(2, 0, 0));
        CHECK.noIndex("master's channel -1", () -> bus.master(0, -1, 0));
        CHECK.noIndex("master's channel 5", () -> bus.master(0, 5, 0));
        CHECK.noIndex("slave -1", () -> bus.slave(-1, 0, 0));
        CHECK.noIndex("slave 3", () -> bus.slave(3, 0, 0));
        CHECK.noIndex("slave's channel -1", () -> bus.slave(0, -1, 0));
        CHECK.noIndex("slave's channel 5", () -> bus.slave(0, 5, 0));
    }

    private static void early() {
        Bus bus = new Bus(2, 1, 1);
        CHECK.due("not early at first", bus.early(1, true) ? 1 : 0, 0);
        CHECK.due("early", bus.early(1, false) ? 1 : 0, 1);
        CHECK.due("not early again", bus.early(1, false) ? 1 : 0, 0);
        CHECK.due("the other one", bus.early(0, false) ? 1 : 0, 0);
        CHECK.noIndex("early -1", () -> bus.early(-1, true));
        CHECK.noIndex("early 2", () -> bus.early(2, true));
    }

    private static void way() {
        Bus bus = new Bus(1, 2, 1);
        CHECK.due("first way", bus.way(1, 15, 2), 0);
        CHECK.due("way 2, delay 15", bus.way(1, 3, 1), 47);
        CHECK.due("way 1, delay 3", bus.way(1, 0, 0), 19);
        CHECK.due("the other slave's", bus.way(0, 0, 0), 0);
        CHECK.noIndex("slave -1", () -> bus.way(-1, 0, 0));
        CHECK.noIndex("slave before number", () -> bus.way(2, 16, 3));
        CHECK.badNumber("delay -1", () -> bus.way(0, -1, 0));
        CHECK.badNumber("delay 16", () -> bus.way(0, 16, 0));
        CHECK.badNumber("way -1", () -> bus.way(0, 1, -1));
        CHECK.badNumber("way 3", () -> bus.way(0, 1, 3));
        CHECK.due("a way that throws changes nothing", bus.way(0, 0, 0), 0);
    }

    private static void spoil() {
        Bus bus = new Bus(1, 1, 1);
        CHECK.due("ten new", bus.spoil(60, 10, true), 10);
        CHECK.due("two more", bus.spoil(58, 12, true), 2);
        CHECK.due("none new", bus.spoil(63, 2, true), 0);
        CHECK.due("three less", bus.spoil(62, 3, false), 3);
        CHECK.due("the others less", bus.spoil(0, 128, false), 9);
        CHECK.due("as many as there are", bus.spoil(65530, 100, true), 6);
        CHECK.due("all of them", bus.spoil(0, Integer.MAX_VALUE, true), 65530);
        CHECK.due("none left", bus.spoil(0, 65536, false), 65536);
        CHECK.due("the last byte", bus.spoil(65535, Integer.MAX_VALUE, true), 1);
        CHECK.noIndex("address -1", () -> bus.spoil(-1, 1, true));
        CHECK.noIndex("address before number", () -> bus.spoil(65536, 0, true));
        CHECK.badNumber("n 0", () -> bus.spoil(0, 0, true));
        CHECK.badNumber("n below 0", () -> bus.spoil(0, Integer.MIN_VALUE, true));
    }

    private static void pokeAndPeek() {
        Bus bus = new Bus(1, 1, 1);
        int[] addresses = {0, 7, 8, 4095, 65535};
        for (int a : addresses) {
            CHECK.due("first byte", bus.peek(a), 0);
            CHECK.due("poke", bus.poke(a, 255), 0);
            CHECK.due("poke again", bus.poke(a, 130), 255);
            CHECK.due("peek", bus.peek(a), 130);
        }
        CHECK.due("a neighbour", bus.peek(6), 0);
        bus.spoil(7, 1, true);
        CHECK.due("poke of a spoilt byte", bus.poke(7, 9), 130);
        CHECK.due("peek of a spoilt byte", bus.peek(7), 9);
        CHECK.noIndex("peek -1", () -> bus.peek(-1));
        CHECK.noIndex("peek 65536", () -> bus.peek(65536));
        CHECK.noIndex("poke -1", () -> bus.poke(-1, 0));
        CHECK.noIndex("poke's address before its number", () -> bus.poke(65536, 256));
        CHECK.badNumber("poke of 256", () -> bus.poke(0, 256));
        CHECK.badNumber("poke of -1", () -> bus.poke(0, -1));
        CHECK.due("a poke that throws changes nothing", bus.peek(0), 130);
    }
}
