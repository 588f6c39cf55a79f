/** Promises 4 to 6 and 17 to 22: what stands on the wires, patterns, HELD, and what is told of ports. */
final class PortTest {
    private static final Check CHECK = new Check();

    public static void main(String[] args) {
        wiresOfAWrite();
        wiresOfARead();
        wrongWires();
        masterPatterns();
        slavePatterns();
        earlyMaster();
        heldStays();
        channelsApart();
        transfersOfPorts();
        targets();
        told();
        CHECK.end();
    }

    private static void wires(Bus bus, String name, int side, int channel, long... want) {
        CHECK.due(name + ": valid", bus.wire(side, 0, channel, 0), want[0]);
        CHECK.due(name + ": ready", bus.wire(side, 0, channel, 1), want[1]);
        CHECK.due(name + ": rest", bus.wire(side, 0, channel, 2), want[2]);
        CHECK.due(name + ": content", bus.content(side, 0, channel), want[3]);
    }

    private static void wiresOfAWrite() {
        Bus bus = new Bus(2, 1, 4);
        int how = Check.how(1, 1, Check.GROWING) + Check.WRITE + 9 * Check.URGENCY;
        bus.request(1, how, 0x1236, 7, 1);
        long data = Check.seedAfter(1, 1) & 0xFFFF000000000000L;
        bus.tick(1);
        CHECK.due("AW at the master", bus.content(Check.MASTER, 1, Check.AW), Check.address(7, 0x1236, how));
        wires(bus, "AW at the slave, too early", Check.SLAVE, Check.AW, 0, 1, 0, 0);
        CHECK.due("W not before its address", bus.wire(Check.MASTER, 1, Check.W, 0), 0);
        bus.tick(1);
        wires(bus, "AW at the slave", Check.SLAVE, Check.AW, 1, 1, 0, Check.address(23, 0x1236, how));
        CHECK.due("no more AW", bus.wire(Check.MASTER, 1, Check.AW, 0), 0);
        CHECK.due("W at the master", bus.content(Check.MASTER, 1, Check.W), data);
        CHECK.due("strobes and LAST", bus.wire(Check.MASTER, 1, Check.W, 2), 256 + 128 + 64);
        wires(bus, "W at the slave, too early", Check.SLAVE, Check.W, 0, 0, 0, 0);
        bus.tick(1);
        wires(bus, "W at the slave", Check.SLAVE, Check.W, 1, 1, 256 + 128 + 64, data);
        bus.tick(1);
        wires(bus, "B at the slave", Check.SLAVE, Check.B, 1, 1, 23, 0);
        bus.tick(1);
        CHECK.due("B at the master", bus.wire(Check.MASTER, 1, Check.B, 2), 7);
        wires(bus, "no B at the other one", Check.MASTER, Check.B, 0, 1, 0, 0);
    }

    private static void wiresOfARead() {
        Bus bus = new Bus(1, 1, 4);
        for (int a = 0; a < 16; a++) {
            bus.poke(a, a + 1);
        }
        bus.spoil(4, 1, true);
        bus.request(0, Check.how(2, 2, Check.GROWING), 2, 5, 0);
        bus.tick(1);
        wires(bus, "AR", Check.MASTER, Check.AR, 1, 1, 0, Check.address(5, 2, Check.how(2, 2, Check.GROWING)));
        bus.tick(2);
        wires(bus, "R at the slave", Check.SLAVE, Check.R, 1, 1, 5, 0x04030000L);
        bus.tick(1);
        wires(bus, "R at the master", Check.MASTER, Check.R, 1, 1, 5, 0x04030000L);
        wires(bus, "LAST R at the slave", Check.SLAVE, Check.R, 1, 1, 5 + 2 * 64 + 256, 0);
        bus.tick(1);
        wires(bus, "LAST R at the master", Check.MASTER, Check.R, 1, 1, 5 + 2 * 64 + 256, 0);
        bus.tick(1);
        wires(bus, "no R more", Check.MASTER, Check.R, 0, 1, 0, 0);
    }

    private static void wrongWires() {
        Bus bus = new Bus(2, 3, 4);
        CHECK.noIndex("side -1", () -> bus.wire(-1, 0, 0, 0));
        CHECK.noIndex("side 2", () -> bus.wire(2, 0, 0, 0));
        CHECK.noIndex("master 2", () -> bus.wire(0, 2, 0, 0));
        CHECK.noIndex("slave 3", () -> bus.wire(1, 3, 0, 0));
        CHECK.noIndex("k -1", () -> bus.wire(1, -1, 0, 0));
        CHECK.noIndex("channel -1", () -> bus.wire(1, 0, -1, 0));
        CHECK.noIndex("channel before what", () -> bus.wire(1, 0, 5, 3));
        CHECK.badNumber("what 3", () -> bus.wire(1, 2, 4, 3));
        CHECK.badNumber("what -1", () -> bus.wire(1, 2, 4, -1));
        CHECK.noIndex("content: side", () -> bus.content(2, 0, 0));
        CHECK.noIndex("content: side -1", () -> bus.content(-1, 0, 0));
        CHECK.noIndex("content: master", () -> bus.content(0, 2, 0));
        CHECK.noIndex("content: channel", () -> bus.content(0, 0, 5));
        CHECK.noIndex("content: channel -1", () -> bus.content(0, 0, -1));
        CHECK.noIndex("port: side", () -> bus.port(2, 0, 0));
        CHECK.noIndex("port before what", () -> bus.port(1, 3, 8));
        CHECK.noIndex("port: k -1", () -> bus.port(0, -1, 0));
        CHECK.badNumber("port: what 8", () -> bus.port(1, 2, 8));
        CHECK.badNumber("port: what -1", () -> bus.port(1, 2, -1));
    }

    /** The ticks, of the first 20, in which a wire is up. */
    private static String ups(Bus bus, int side, int channel, int what) {
        StringBuilder ups = new StringBuilder();
        for (int i = 0; i < 20; i++) {
            bus.tick(1);
            if (bus.wire(side, 0, channel, what) == 1) {
                ups.append(i).append(' ');
            }
        }
        return ups.toString();
    }

    private static Bus busWith(int requests, int how) {
        Bus bus = new Bus(1, 1, 8);
        for (int i = 0; i < requests; i++) {
            bus.request(0, how, 64 * i, i, i);
        }
        return bus;
    }

    private static void masterPatterns() {
        int write = Check.WRITE + Check.how(1, 0, Check.GROWING);
        int read = Check.how(1, 0, Check.GROWING);
        Bus bus = busWith(3, write);
        bus.master(0, Check.AW, 0x8014);
        CHECK.due("AW by its pattern", ups(bus, Check.MASTER, Check.AW, 0), "2 4 15 ");
        bus = busWith(3, write);
        bus.master(0, Check.W, 0x0081);
        CHECK.due("W by its pattern", ups(bus, Check.MASTER, Check.W, 0), "7 16 ");
        bus = busWith(3, read);
        bus.master(0, Check.AR, 0x0003);
        CHECK.due("AR by its pattern", ups(bus, Check.MASTER, Check.AR, 0), "0 1 16 ");
        bus = busWith(1, write);
        bus.master(0, Check.B, 0x0041);
        CHECK.due("B's READY by its pattern", ups(bus, Check.MASTER, Check.B, 1), "0 6 16 ");
        CHECK.due("done when B was READY", bus.ticket(0, 4), 6);
        bus = busWith(1, read);
        bus.master(0, Check.R, 0x0202);
        CHECK.due("R's READY by its pattern", ups(bus, Check.MASTER, Check.R, 1), "1 9 17 ");
        CHECK.due("done when R was READY", bus.ticket(0, 4), 9);
    }

    private static void slavePatterns() {
        int write = Check.WRITE + Check.how(1, 0, Check.GROWING);
        int read = Check.how(1, 0, Check.GROWING);
        Bus bus = busWith(2, write);
        bus.slave(0, Check.AW, 0x0109);
        CHECK.due("AW's READY", ups(bus, Check.SLAVE, Check.AW, 1), "0 3 8 16 19 ");
        CHECK.due("AW is held till it is READY", bus.ticket(0, 4), 6);
        bus = busWith(1, Check.WRITE + Check.how(3, 0, Check.GROWING));
        bus.slave(0, Check.W, 0x1F22);
        CHECK.due("W's READY while beats are lacking", ups(bus, Check.SLAVE, Check.W, 1), "5 8 9 ");
        bus = busWith(2, read);
        bus.slave(0, Check.AR, 0x0050);
        CHECK.due("AR's READY", ups(bus, Check.SLAVE, Check.AR, 1), "4 6 ");
        bus = busWith(2, write);
        bus.slave(0, Check.B, 0x0820);
        CHECK.due("B's VALID", ups(bus, Check.SLAVE, Check.B, 0), "5 11 ");
        bus = busWith(2, read);
        bus.slave(0, Check.R, 0x4008);
        CHECK.due("R's VALID", ups(bus, Check.SLAVE, Check.R, 0), "3 14 ");
    }

    private static void earlyMaster() {
        Bus bus = busWith(2, Check.WRITE + Check.how(1, 0, Check.GROWING));
        bus.master(0, Check.AW, 0x8000);
        bus.early(0, true);
        CHECK.due("W ahead of AW", ups(bus, Check.MASTER, Check.W, 0), "0 1 ");
        CHECK.due("beats were transferred", bus.ticket(1, 5), 1);
        CHECK.due("the second address was not", bus.ticket(1, 0), 0);
        bus.master(0, Check.AW, 65535);
        bus.drain(100);
        CHECK.sound("early", bus);
        bus = busWith(1, Check.WRITE + Check.how(1, 0, Check.GROWING));
        bus.early(0, true);
        CHECK.due("together with AW", ups(bus, Check.MASTER, Check.W, 0), "0 ");
        CHECK.due("the slave waits for the address", bus.ticket(0, 4), 4);
    }

    private static void heldStays() {
        Bus bus = busWith(8, Check.WRITE + Check.how(16, 3, Check.GROWING));
        bus.slave(0, Check.AW, 0);
        bus.slave(0, Check.W, 0);
        bus.tick(40);
        long address = bus.content(Check.MASTER, 0, Check.AW);
        long data = bus.content(Check.MASTER, 0, Check.W);
        CHECK.due("AW waits", bus.wire(Check.MASTER, 0, Check.AW, 1), 0);
        CHECK.due("W waits", bus.wire(Check.MASTER, 0, Check.W, 1), 0);
        bus.master(0, Check.AW, 0);
        bus.master(0, Check.W, 0);
        bus.tick(3);
        wires(bus, "AW is held", Check.MASTER, Check.AW, 1, 0, 0, address);
        wires(bus, "W is held", Check.MASTER, Check.W, 1, 0, 255, data);
        CHECK.due("AW: two rows of two", bus.port(Check.MASTER, 0, Check.AW), 4);
        CHECK.due("W: two rows of four", bus.port(Check.MASTER, 0, Check.W), 8);
        bus.slave(0, Check.AW, 65535);
        bus.slave(0, Check.W, 65535);
        bus.tick(20);
        CHECK.due("AW: the held one more", bus.port(Check.MASTER, 0, Check.AW), 5);
        CHECK.due("W: the held one more", bus.port(Check.MASTER, 0, Check.W), 9);
        CHECK.sound("held", bus);
    }

    /** Where reads stand still a write goes on in the ticks that it needs, and the other way round. */
    private static void channelsApart() {
        int read = Check.how(4, 0, Check.GROWING);
        for (int kept : new int[] {Check.AR, Check.R}) {
            CHECK.due("a write, with held " + kept, ticksBeside(read, kept, Check.WRITE + read), 7);
        }
        for (int kept : new int[] {Check.AW, Check.W, Check.B}) {
            CHECK.due("a read, with held " + kept, ticksBeside(Check.WRITE + read, kept, read), 6);
        }
    }

    private static int ticksBeside(int others, int kept, int how) {
        Bus bus = busWith(8, others);
        boolean answers = kept == Check.B || kept == Check.R;
        int before = answers ? bus.master(0, kept, 0) : bus.slave(0, kept, 0);
        CHECK.due("the pattern was", before, 65535);
        bus.tick(60);
        CHECK.due("VALID", bus.wire(Check.MASTER, 0, kept, 0), 1);
        CHECK.due("no READY", bus.wire(Check.MASTER, 0, kept, 1), 0);
        int ticket = bus.request(0, how, 0, 9, 1);
        bus.tick(30);
        CHECK.due("still VALID", bus.wire(Check.MASTER, 0, kept, 0), 1);
        CHECK.sound("channels apart", bus);
        return bus.ticket(ticket, 4) - bus.ticket(ticket, 2);
    }

    private static void transfersOfPorts() {
        Bus bus = new Bus(2, 2, 4);
        bus.request(1, Check.WRITE + Check.how(4, 0, Check.GROWING), 4096, 0, 0);
        bus.request(1, Check.how(2, 0, Check.GROWING), 0, 0, 0);
        bus.drain(100);
        int[][] want = {{0, 0, 0, 0, 0}, {1, 4, 1, 1, 2}, {0, 0, 0, 1, 2}, {1, 4, 1, 0, 0}};
        for (int p = 0; p < 4; p++) {
            for (int c = 0; c < 5; c++) {
                CHECK.due("transfers at port " + p + " on " + c, bus.port(p / 2, p % 2, c), want[p][c]);
            }
            CHECK.due("rule", bus.port(p / 2, p % 2, 5), 0);
            CHECK.due("channel", bus.port(p / 2, p % 2, 6), -1);
            CHECK.due("tick", bus.port(p / 2, p % 2, 7), -1);
        }
    }

    private static void targets() {
        Bus bus = new Bus(1, 2, 8);
        bus.map(2, -1);
        bus.slave(0, Check.R, 0);
        bus.slave(1, Check.B, 0);
        bus.master(0, Check.R, 0);
        for (int i = 0; i < 6; i++) {
            bus.request(0, 0, 64 * i, i, 0);
            bus.request(0, Check.WRITE, 4096 + 64 * i, i, 0);
        }
        bus.tick(30);
        int[][] want = {{0, 6, 0, 4}, {6, 0, 4, 0}, {0, 0, 0, 0}};
        for (int t = 0; t < 3; t++) {
            for (int what = 0; what < 4; what++) {
                CHECK.due("target " + t + " what " + what, bus.target(t, what), want[t][what]);
            }
        }
        bus.slave(0, Check.R, 65535);
        bus.slave(1, Check.B, 65535);
        bus.master(0, Check.R, 65535);
        bus.drain(100);
        for (int what = 0; what < 4; what++) {
            CHECK.due("all gone", bus.target(0, what) + bus.target(1, what) + bus.target(2, what), 0);
        }
        bus.request(0, Check.how(16, 0, Check.GROWING), 8192, 0, 0);
        bus.tick(1);
        CHECK.due("a read under way to the default target", bus.target(2, 1), 1);
        CHECK.due("which has none at once", bus.target(2, 3), 0);
        CHECK.noIndex("target -1", () -> bus.target(-1, 0));
        CHECK.noIndex("target before what", () -> bus.target(3, 4));
        CHECK.badNumber("what 4", () -> bus.target(2, 4));
        CHECK.badNumber("what -1", () -> bus.target(0, -1));
    }

    private static void told() {
        Bus bus = new Bus(2, 3, 7);
        bus.request(0, 0, 0, 0, 0);
        bus.request(1, Check.WRITE, 0, 0, 0);
        bus.policy(2, false);
        bus.tick(4);
        int[] want = {4, 2, 1, 2, 3, 7, 2};
        for (int what = 0; what < want.length; what++) {
            CHECK.due("told " + what, bus.told(what), want[what]);
        }
        CHECK.due("told -1", bus.told(-1), -1);
        CHECK.due("told 7", bus.told(7), -1);
        CHECK.due("told the least", bus.told(Integer.MIN_VALUE), -1);
    }
}
