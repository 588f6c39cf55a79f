/** Section 6 and promises 23 to 26: sixteen and one more, each length's last beat, each lane, bit, ID and answer. */
final class MonitorBoundsTest {
    private static final Check CHECK = new Check();
    private static final int LAST = 256;
    private static final int ONE = Check.how(1, 3, Check.GROWING);

    public static void main(String[] args) {
        beforeATick();
        sixteenReads();
        roomOfALastBeat();
        sixteenAddresses();
        sixteenOfData();
        sixteenOfBoth();
        roomOfAnAnswer();
        noneOfSixteen();
        sixteenBeats();
        for (int length = 1; length <= 16; length++) {
            lastBeatOfReads(length);
            lastBeatBehindAnAddress(length);
            lastBeatBeforeAnAddress(length);
        }
        everyLane();
        everyId();
        everyResponse();
        firstOfARowsRules();
        everyBit();
        heldTillTransferred();
        waysToSee();
        restBounds();
        ticksAndFaults();
        firstInATick();
        againAtAnyTime();
        watchersApart();
        CHECK.end();
    }

    private static Bus bus() {
        return new Bus(1, 1, 1);
    }

    private static void aw(Bus bus, int how, int id, int a) {
        bus.see(0, Check.AW, Check.BOTH, Check.address(id, a, how), 0);
    }

    private static void ar(Bus bus, int how, int id, int a) {
        bus.see(0, Check.AR, Check.BOTH, Check.address(id, a, how), 0);
    }

    private static void w(Bus bus, int rest) {
        bus.see(0, Check.W, Check.BOTH, 0, rest);
    }

    private static void b(Bus bus, int rest) {
        bus.see(0, Check.B, Check.BOTH, 0, rest);
    }

    private static void r(Bus bus, int rest) {
        bus.see(0, Check.R, Check.BOTH, 0, rest);
    }

    private static void goes(String name, Bus bus) {
        CHECK.due(name, bus.judge(0), 0);
    }

    private static void breaks(String name, Bus bus, int rule, int channel) {
        int tick = bus.watched(0, 3);
        CHECK.due(name + ": rule", bus.judge(0), rule);
        CHECK.due(name + ": channel", bus.watched(0, 1), channel);
        CHECK.due(name + ": tick", bus.watched(0, 2), tick);
    }

    private static void goesOrBreaks(String name, Bus bus, int rule, int channel) {
        if (rule == 0) {
            goes(name, bus);
        } else {
            breaks(name, bus, rule, channel);
        }
    }

    private static void keeps(String name, Bus bus, int writes, int reads) {
        CHECK.due(name + ": writes", bus.watched(0, 4), writes);
        CHECK.due(name + ": reads", bus.watched(0, 5), reads);
    }

    private static void beforeATick() {
        Bus bus = bus();
        int[] want = {0, -1, -1, 0, 0, 0};
        for (int i = 0; i < 12; i++) {
            CHECK.due("watched " + i % 6 + " at first", bus.watched(i / 6, i % 6), want[i % 6]);
        }
        b(bus, 0);
        CHECK.due("what is seen counts when the tick ends", bus.watched(0, 0), 0);
        breaks("tick 0 is judged too", bus, 9, Check.B);
    }

    private static Bus reads(int count) {
        Bus bus = bus();
        for (int i = 0; i < count; i++) {
            ar(bus, Check.how(2, 3, Check.GROWING), i, 0);
            goes("read " + i, bus);
        }
        keeps("reads", bus, 0, count);
        return bus;
    }

    private static void sixteenReads() {
        Bus bus = reads(16);
        bus.see(0, Check.AR, Check.VALID, Check.address(1, 0, ONE), 0);
        goes("a 17th that is not transferred", bus);
        ar(bus, ONE, 1, 0);
        breaks("a 17th", bus, 12, Check.AR);
        keeps("sixteen stay", bus, 0, 16);
        Bus fifteen = reads(15);
        ar(fifteen, ONE, 1, 0);
        goes("a 16th", fifteen);
        keeps("sixteen", fifteen, 0, 16);
    }

    /** A read that ends in the same tick makes room, one that goes on makes none. */
    private static void roomOfALastBeat() {
        Bus bus = reads(16);
        r(bus, 3);
        goes("a first beat", bus);
        r(bus, LAST + 3);
        ar(bus, ONE, 1, 0);
        goes("one goes, one comes", bus);
        keeps("sixteen again", bus, 0, 16);
        r(bus, 4);
        ar(bus, ONE, 1, 0);
        breaks("a first beat makes no room", bus, 12, Check.AR);
    }

    private static Bus addresses(int count) {
        Bus bus = bus();
        for (int i = 0; i < count; i++) {
            aw(bus, ONE, i, 0);
            goes("address " + i, bus);
        }
        keeps("addresses", bus, count, 0);
        return bus;
    }

    private static void sixteenAddresses() {
        Bus bus = addresses(16);
        bus.see(0, Check.AW, Check.VALID, Check.address(1, 0, ONE), 0);
        goes("a 17th that is not transferred", bus);
        aw(bus, ONE, 1, 0);
        breaks("a 17th", bus, 12, Check.AW);
        keeps("sixteen stay", bus, 16, 0);
        Bus fifteen = addresses(15);
        aw(fifteen, ONE, 1, 0);
        goes("a 16th", fifteen);
        keeps("sixteen", fifteen, 16, 0);
    }

    private static void sixteenOfData() {
        for (int count = 15; count <= 16; count++) {
            Bus bus = bus();
            for (int i = 0; i < count; i++) {
                w(bus, LAST);
                goes("data " + i, bus);
            }
            w(bus, LAST);
            goesOrBreaks("one more behind " + count, bus, count == 15 ? 0 : 12, Check.W);
            keeps("sixteen", bus, 16, 0);
        }
    }

    /** Sixteen addresses have room for their data and the other way round, and for no more. */
    private static void sixteenOfBoth() {
        Bus bus = addresses(16);
        for (int i = 0; i < 16; i++) {
            w(bus, LAST);
            goes("data of " + i, bus);
        }
        keeps("sixteen", bus, 16, 0);
        w(bus, LAST);
        breaks("data of a 17th", bus, 12, Check.W);
        Bus data = bus();
        for (int i = 0; i < 16; i++) {
            w(data, LAST);
            goes("data " + i, data);
        }
        for (int i = 0; i < 16; i++) {
            aw(data, ONE, i, 0);
            goes("address of " + i, data);
        }
        aw(data, ONE, 0, 0);
        breaks("address of a 17th", data, 12, Check.AW);
        keeps("sixteen", data, 16, 0);
    }

    private static void roomOfAnAnswer() {
        Bus bus = addresses(16);
        for (int i = 0; i < 16; i++) {
            w(bus, LAST);
            goes("data of " + i, bus);
        }
        b(bus, 15);
        aw(bus, ONE, 20, 0);
        w(bus, LAST);
        goes("one goes, one comes", bus);
        keeps("sixteen again", bus, 16, 0);
        b(bus, 20);
        w(bus, LAST);
        goes("the new one goes, another one's data come", bus);
        keeps("sixteen once more", bus, 16, 0);
        aw(bus, ONE, 20, 0);
        w(bus, LAST);
        breaks("its address has room, more data have none", bus, 12, Check.W);
    }

    /** All sixteen are looked at, and none of them has the ID. */
    private static void noneOfSixteen() {
        Bus reads = reads(16);
        r(reads, 16);
        breaks("R of none of sixteen", reads, 10, Check.R);
        Bus last = reads(16);
        r(last, 15);
        goes("R of the last of sixteen", last);
        Bus writes = addresses(16);
        for (int i = 0; i < 16; i++) {
            w(writes, LAST);
            goes("data of " + i, writes);
        }
        b(writes, 15);
        goes("B of the last of sixteen", writes);
        aw(writes, ONE, 17, 0);
        w(writes, LAST);
        goes("sixteen again", writes);
        b(writes, 15);
        breaks("B of none of sixteen", writes, 9, Check.B);
    }

    private static void sixteenBeats() {
        for (int last = 0; last < 2; last++) {
            Bus bus = bus();
            for (int i = 0; i < 15; i++) {
                w(bus, 0);
                goes("beat " + i, bus);
            }
            w(bus, last * LAST);
            goes("a 16th beat", bus);
            keeps("one write", bus, 1, 0);
            w(bus, LAST);
            goesOrBreaks("one beat more", bus, last == 1 ? 0 : 7, Check.W);
            keeps("a new write behind a LAST one", bus, 1 + last, 0);
        }
        Bus never = bus();
        for (int i = 0; i < 16; i++) {
            w(never, 0);
            goes("beat " + i, never);
        }
        w(never, 0);
        breaks("a 17th without LAST", never, 7, Check.W);
    }

    /** Beats of a read, LAST with the beat of this number: just the l-th may, and must. */
    private static void lastBeatOfReads(int length) {
        for (int last = 1; last <= length + 1; last++) {
            Bus bus = bus();
            ar(bus, Check.how(length, 0, Check.GROWING), 9, 0);
            goes("address", bus);
            for (int beat = 1; beat < Math.min(last, length); beat++) {
                r(bus, 9);
                goes("beat " + beat, bus);
            }
            r(bus, 9 + (last <= length ? LAST : 0));
            goesOrBreaks("LAST with " + last + " of " + length, bus, last == length ? 0 : 7, Check.R);
            keeps("reads", bus, 0, last == length ? 0 : 1);
        }
    }

    private static void lastBeatBehindAnAddress(int length) {
        for (int last = 1; last <= length + 1; last++) {
            Bus bus = bus();
            aw(bus, Check.how(length, 0, Check.GROWING), 9, 0);
            goes("address", bus);
            for (int beat = 1; beat < Math.min(last, length); beat++) {
                w(bus, 0);
                goes("beat " + beat, bus);
            }
            w(bus, last <= length ? LAST : 0);
            goesOrBreaks("LAST with " + last + " of " + length, bus, last == length ? 0 : 7, Check.W);
        }
    }

    /** All beats that came before their address are looked at with it. */
    private static void lastBeatBeforeAnAddress(int length) {
        for (int beats = 1; beats <= 16; beats++) {
            for (int last = 0; last < 2; last++) {
                Bus bus = bus();
                for (int beat = 1; beat < beats; beat++) {
                    w(bus, 0);
                    goes("beat " + beat, bus);
                }
                w(bus, last * LAST);
                goes("the latest beat", bus);
                aw(bus, Check.how(length, 0, Check.GROWING), 9, 0);
                boolean good = last == 1 ? beats == length : beats < length;
                String name = beats + " beats of " + length + ", LAST " + last;
                goesOrBreaks(name, bus, good ? 0 : 7, Check.AW);
                keeps(name, bus, 1, 0);
            }
        }
    }

    /** Strobes of one lane alone, in each beat: just the lanes of the beat's bytes may have one. */
    private static void everyLane() {
        int[][] bursts = {{Check.how(2, 0, Check.GROWING), 7}, {Check.how(2, 1, Check.GROWING), 6},
            {Check.how(2, 1, Check.GROWING), 3}, {Check.how(2, 2, Check.GROWING), 1}, {Check.how(2, 2, Check.FIXED), 5},
            {Check.how(2, 2, Check.WRAPPING), 4}, {Check.how(2, 3, Check.GROWING), 7}, {Check.how(2, 3, Check.FIXED), 2}};
        int[][] lanes = {{0x80, 0x01}, {0xC0, 0x03}, {0x08, 0x30}, {0x0E, 0xF0}, {0xE0, 0xE0}, {0xF0, 0x0F},
            {0x80, 0xFF}, {0xFC, 0xFC}};
        for (int i = 0; i < bursts.length; i++) {
            for (int beat = 0; beat < 2; beat++) {
                for (int lane = 0; lane < 8; lane++) {
                    int rule = (lanes[i][beat] >> lane & 1) == 1 ? 0 : 8;
                    laneBehindAnAddress(bursts[i], beat, 1 << lane, rule);
                    laneBeforeAnAddress(bursts[i], beat, 1 << lane, rule);
                }
                laneBehindAnAddress(bursts[i], beat, lanes[i][beat], 0);
                laneBehindAnAddress(bursts[i], beat, 0, 0);
            }
        }
    }

    private static void laneBehindAnAddress(int[] burst, int beat, int strobes, int rule) {
        Bus bus = bus();
        aw(bus, burst[0], 9, burst[1]);
        goes("address", bus);
        if (beat == 1) {
            w(bus, 0);
            goes("first beat", bus);
        }
        w(bus, strobes + beat * LAST);
        goesOrBreaks("strobes " + strobes + " in beat " + beat + " from " + burst[1], bus, rule, Check.W);
    }

    private static void laneBeforeAnAddress(int[] burst, int beat, int strobes, int rule) {
        Bus bus = bus();
        w(bus, beat == 0 ? strobes : 0);
        goes("first beat", bus);
        w(bus, LAST + (beat == 1 ? strobes : 0));
        goes("second beat", bus);
        aw(bus, burst[0], 9, burst[1]);
        goesOrBreaks("strobes " + strobes + " before the address", bus, rule, Check.AW);
    }

    private static void everyId() {
        for (int id : new int[] {0, 15, 16, 63}) {
            for (int bit = -1; bit < 6; bit++) {
                int other = bit < 0 ? id : id ^ 1 << bit;
                Bus write = bus();
                aw(write, ONE, id, 0);
                w(write, LAST);
                goes("a write", write);
                b(write, other);
                goesOrBreaks("B of " + other + " for " + id, write, bit < 0 ? 0 : 9, Check.B);
                Bus read = bus();
                ar(read, ONE, id, 0);
                goes("a read", read);
                r(read, other + LAST);
                goesOrBreaks("R of " + other + " for " + id, read, bit < 0 ? 0 : 10, Check.R);
            }
        }
    }

    /** EXCLUSIVE OKAY alone is just for those that are. */
    private static void everyResponse() {
        for (int response = 0; response < 4; response++) {
            for (int exclusive = 0; exclusive < 2; exclusive++) {
                int rule = response == 1 && exclusive == 0 ? 11 : 0;
                Bus write = bus();
                aw(write, ONE + exclusive * Check.EXCLUSIVE, 5, 0);
                w(write, LAST);
                goes("a write", write);
                b(write, 5 + 64 * response);
                goesOrBreaks("B with " + response, write, rule, Check.B);
                Bus read = bus();
                ar(read, ONE + exclusive * Check.EXCLUSIVE, 5, 0);
                goes("a read", read);
                r(read, 5 + 64 * response + LAST);
                goesOrBreaks("R with " + response, read, rule, Check.R);
            }
        }
    }

    /** NO WRITE before ANSWER; NO READ before LAST before ANSWER; LAST before STROBES. */
    private static void firstOfARowsRules() {
        Bus write = bus();
        b(write, 64);
        breaks("no write, and EXCLUSIVE OKAY", write, 9, Check.B);
        Bus read = bus();
        r(read, 64);
        breaks("no read, and EXCLUSIVE OKAY", read, 10, Check.R);
        Bus last = bus();
        ar(last, Check.how(2, 0, Check.GROWING), 0, 0);
        goes("a read", last);
        r(last, 64 + LAST);
        breaks("LAST too early, and EXCLUSIVE OKAY", last, 7, Check.R);
        Bus strobes = bus();
        aw(strobes, Check.how(2, 0, Check.GROWING), 0, 0);
        w(strobes, 255 + LAST);
        breaks("LAST too early, and strobes", strobes, 7, Check.W);
    }

    /** A watcher that holds a channel with this CONTENT and REST. */
    private static Bus holding(int channel, long content, int rest) {
        Bus bus = bus();
        if (channel == Check.B) {
            aw(bus, ONE, rest % 64, 0);
            w(bus, LAST);
        }
        if (channel == Check.R) {
            ar(bus, ONE, rest % 64, 0);
        }
        goes("before", bus);
        bus.see(0, channel, Check.VALID, content, rest);
        goes("held", bus);
        return bus;
    }

    /** No bit of CONTENT or REST may change while it is held, whether it is transferred or not. */
    private static void everyBit() {
        long[] contents = {Check.address(5, 64, ONE), 0x0123456789ABCDEFL, 0, Check.address(5, 64, ONE), -1};
        int[] rests = {0, LAST + 170, 5, 0, LAST + 5};
        for (int c = 0; c < 5; c++) {
            for (int bit = 0; bit < 64 + 9; bit++) {
                long content = bit < 64 ? contents[c] ^ 1L << bit : contents[c];
                int rest = bit < 64 ? rests[c] : rests[c] ^ 1 << bit - 64;
                Bus bus = holding(c, contents[c], rests[c]);
                bus.see(0, c, bit % 2 == 0 ? Check.VALID : Check.BOTH, content, rest);
                breaks("bit " + bit + " of channel " + c, bus, 2, c);
            }
            Bus fell = holding(c, contents[c], rests[c]);
            breaks("channel " + c + " fell", fell, 1, c);
            Bus ready = holding(c, contents[c], rests[c]);
            ready.see(0, c, Check.READY, contents[c], rests[c]);
            breaks("channel " + c + " fell, with READY", ready, 1, c);
        }
    }

    private static void heldTillTransferred() {
        long[] contents = {Check.address(5, 64, ONE), 7, 0, Check.address(5, 64, ONE), -1};
        int[] rests = {0, LAST, 5, 0, LAST + 5};
        for (int c = 0; c < 5; c++) {
            Bus bus = holding(c, contents[c], rests[c]);
            for (int i = 0; i < 20; i++) {
                bus.see(0, c, Check.VALID, contents[c], rests[c]);
                goes("still held", bus);
            }
            bus.see(0, c, Check.BOTH, contents[c], rests[c]);
            goes("transferred", bus);
            goes("it may fall", bus);
        }
        Bus next = bus();
        next.see(0, Check.W, Check.BOTH, 1, 0);
        goes("transferred at once", next);
        next.see(0, Check.W, Check.BOTH, 2, 0);
        goes("another one in the next tick", next);
    }

    /** VALID with 1 and 3, READY with 2 and 3; a read is kept with both alone. */
    private static void waysToSee() {
        for (int how = 0; how < 4; how++) {
            Bus bus = bus();
            bus.see(0, Check.AR, how, Check.address(5, 0, ONE), 0);
            goes("how " + how, bus);
            keeps("how " + how, bus, 0, how == 3 ? 1 : 0);
            goesOrBreaks("behind how " + how, bus, how == 1 ? 1 : 0, Check.AR);
            Bus wrong = bus();
            wrong.see(0, Check.B, how, 0, 0);
            goesOrBreaks("B with how " + how, wrong, how % 2 == 1 ? 9 : 0, Check.B);
            Bus anew = bus();
            b(anew, 0);
            anew.see(0, Check.B, how, 0, 0);
            goesOrBreaks("B told anew with how " + how, anew, how % 2 == 1 ? 9 : 0, Check.B);
        }
    }

    private static void restBounds() {
        for (int how = 0; how < 4; how++) {
            int told = how;
            for (int channel = 0; channel < 5; channel++) {
                int c = channel;
                Bus bus = bus();
                bus.see(1, c, told, 0, 0);
                bus.see(1, c, told, 0, 511);
                CHECK.badNumber("REST 512", () -> bus.see(1, c, told, 0, 512));
                CHECK.badNumber("REST -1", () -> bus.see(1, c, told, 0, -1));
                CHECK.noIndex("channel 5", () -> bus.see(1, 5, told, 0, 0));
                CHECK.noIndex("watcher 2", () -> bus.see(2, c, told, 0, 0));
            }
        }
        Bus kept = bus();
        ar(kept, ONE + Check.EXCLUSIVE, 63, 0);
        goes("a read", kept);
        r(kept, 63 + 64 + LAST);
        CHECK.badNumber("REST 512", () -> kept.see(0, Check.R, Check.IDLE, 0, 512));
        goes("what was told before stays", kept);
        keeps("the read went", kept, 0, 0);
    }

    private static void ticksAndFaults() {
        for (int fault : new int[] {0, 1, 7}) {
            Bus bus = bus();
            for (int tick = 0; tick < 10; tick++) {
                CHECK.due("ticks", bus.watched(0, 3), tick);
                CHECK.due("rule before tick " + tick, bus.watched(0, 0), tick > fault ? 10 : 0);
                CHECK.due("channel before tick " + tick, bus.watched(0, 1), tick > fault ? 4 : -1);
                CHECK.due("its tick before tick " + tick, bus.watched(0, 2), tick > fault ? fault : -1);
                if (tick == fault) {
                    r(bus, 0);
                } else if (tick > fault) {
                    aw(bus, Check.how(1, 0, 3), 0, 0);
                }
                CHECK.due("judge of tick " + tick, bus.judge(0), tick >= fault ? 10 : 0);
            }
            keeps("nothing is kept behind a fault", bus, 0, 0);
        }
    }

    /** The channels in their order, then B, R, AR, AW and W as they are transferred. */
    private static void firstInATick() {
        for (int c = 0; c < 4; c++) {
            Bus bus = bus();
            for (int channel = 0; channel < 5; channel++) {
                if (channel >= c && channel != Check.W) {
                    bus.see(0, channel, Check.VALID, Check.address(0, 0, Check.how(1, 0, 3)), 0);
                }
            }
            int first = c == Check.W ? Check.B : c;
            int[] rules = {3, 0, 9, 3, 10};
            breaks("the least channel from " + c + " on", bus, rules[first], first);
        }
        Bus addresses = addresses(16);
        for (int i = 0; i < 16; i++) {
            ar(addresses, ONE, i, 0);
            goes("read " + i, addresses);
        }
        r(addresses, 3 + LAST);
        aw(addresses, ONE, 0, 0);
        ar(addresses, ONE, 0, 0);
        w(addresses, 0);
        breaks("R made room for AR; AW goes before W", addresses, 12, Check.AW);
        keeps("what went before the fault counts", addresses, 16, 16);
        Bus reads = reads(16);
        aw(reads, ONE, 0, 0);
        ar(reads, ONE, 0, 0);
        breaks("AR goes before AW", reads, 12, Check.AR);
        keeps("what comes behind does not count", reads, 0, 16);
        for (int beats = 0; beats < 2; beats++) {
            answeredInTheTickOfAFault(beats == 1);
        }
    }

    private static void answeredInTheTickOfAFault(boolean withFirstBeat) {
        Bus bus = reads(16);
        aw(bus, ONE, 7, 0);
        w(bus, LAST);
        goes("a write", bus);
        b(bus, 7);
        if (withFirstBeat) {
            r(bus, 3);
        }
        aw(bus, ONE, 7, 0);
        ar(bus, ONE, 0, 0);
        breaks("no LAST beat of R makes room for AR", bus, 12, Check.AR);
        keeps("B went before, AW comes behind", bus, 0, 16);
    }

    private static void againAtAnyTime() {
        Bus unused = bus();
        unused.again(0);
        CHECK.due("ticks of an unused one", unused.watched(0, 3), 0);
        for (int c = 0; c < 5; c++) {
            Bus held = holding(c, Check.address(5, 64, ONE), c == Check.R ? LAST : 0);
            held.again(0);
            goes("channel " + c + " is not held", held);
            CHECK.due("tick 0 is judged", held.watched(0, 3), 1);
            keeps("it keeps nothing", held, 0, 0);
        }
        Bus full = addresses(16);
        ar(full, ONE, 0, 0);
        goes("a read", full);
        full.see(0, Check.W, Check.VALID, 1, 0);
        goes("held", full);
        b(full, 0);
        full.again(0);
        int[] want = {0, -1, -1, 0, 0, 0};
        for (int what = 0; what < 6; what++) {
            CHECK.due("watched " + what + " again", full.watched(0, what), want[what]);
        }
        goes("nothing is held, and nothing seen", full);
        r(full, LAST);
        breaks("no read is kept", full, 10, Check.R);
        full.again(0);
        for (int i = 0; i < 16; i++) {
            aw(full, ONE, i, 0);
            goes("room for sixteen again", full);
        }
    }

    private static void watchersApart() {
        Bus bus = addresses(16);
        int[] want = {0, -1, -1, 0, 0, 0};
        for (int what = 0; what < 6; what++) {
            CHECK.due("the other one's " + what, bus.watched(1, what), want[what]);
        }
        bus.see(1, Check.R, Check.VALID, 0, 0);
        goes("it is not the other one's", bus);
        CHECK.due("it is this one's", bus.judge(1), 10);
        bus.again(1);
        CHECK.due("ticks of the first stay", bus.watched(0, 3), 17);
        keeps("its writes stay", bus, 16, 0);
        CHECK.noIndex("judge 2", () -> bus.judge(2));
        CHECK.noIndex("again -1", () -> bus.again(-1));
        CHECK.noIndex("watched 2", () -> bus.watched(2, 0));
    }
}
