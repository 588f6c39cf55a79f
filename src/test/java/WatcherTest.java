/** Promises 23 to 26: watchers, and each rule that a monitor knows. */
final class WatcherTest {
    private static final Check CHECK = new Check();
    private static final int LAST = 256;
    private static final int ONE = Check.how(1, 3, Check.GROWING);

    public static void main(String[] args) {
        wrongCalls();
        nothing();
        toldAgain();
        fell();
        changed();
        rulesOfBursts();
        goodWrite();
        goodRead();
        noWrite();
        noRead();
        answerOfWrites();
        answerOfReads();
        lastOfReads();
        lastOfWrites();
        strobes();
        dataBeforeAddress();
        fullReads();
        fullWrites();
        seventeenthBeat();
        orderInATick();
        faultStays();
        answersMakeRoom();
        twoWatchers();
        CHECK.end();
    }

    private static Bus bus() {
        return new Bus(1, 1, 1);
    }

    private static void aw(Bus bus, int how, int id, int a, int wires) {
        bus.see(0, Check.AW, wires, Check.address(id, a, how), 0);
    }

    private static void ar(Bus bus, int how, int id, int a, int wires) {
        bus.see(0, Check.AR, wires, Check.address(id, a, how), 0);
    }

    private static void w(Bus bus, int rest) {
        bus.see(0, Check.W, Check.BOTH, 0, rest);
    }

    private static void b(Bus bus, int id, int response) {
        bus.see(0, Check.B, Check.BOTH, 0, id + 64 * response);
    }

    private static void r(Bus bus, int id, int response, boolean last) {
        bus.see(0, Check.R, Check.BOTH, 0, id + 64 * response + (last ? LAST : 0));
    }

    private static void goes(String name, Bus bus) {
        CHECK.due(name, bus.judge(0), 0);
    }

    /** The tick breaks a rule: which, on which channel, in the latest tick. */
    private static void breaks(String name, Bus bus, int rule, int channel) {
        int tick = bus.watched(0, 3);
        CHECK.due(name + ": judge", bus.judge(0), rule);
        CHECK.due(name + ": rule", bus.watched(0, 0), rule);
        CHECK.due(name + ": channel", bus.watched(0, 1), channel);
        CHECK.due(name + ": tick", bus.watched(0, 2), tick);
    }

    private static void keeps(String name, Bus bus, int writes, int reads) {
        CHECK.due(name + ": writes", bus.watched(0, 4), writes);
        CHECK.due(name + ": reads", bus.watched(0, 5), reads);
    }

    private static void wrongCalls() {
        Bus bus = bus();
        CHECK.noIndex("see: watcher -1", () -> bus.see(-1, 0, 0, 0, 0));
        CHECK.noIndex("see: watcher before how", () -> bus.see(2, 0, 4, 0, 0));
        CHECK.noIndex("see: channel before rest", () -> bus.see(1, 5, 0, 0, 512));
        CHECK.noIndex("see: channel -1", () -> bus.see(1, -1, 0, 0, 0));
        CHECK.badNumber("see: how -1", () -> bus.see(1, 0, -1, 0, 0));
        CHECK.badNumber("see: how 4", () -> bus.see(1, 0, 4, 0, 0));
        CHECK.badNumber("see: rest -1", () -> bus.see(1, 0, 0, 0, -1));
        CHECK.badNumber("see: rest 512", () -> bus.see(1, 0, 0, 0, 512));
        CHECK.noIndex("judge -1", () -> bus.judge(-1));
        CHECK.noIndex("judge 2", () -> bus.judge(2));
        CHECK.noIndex("watched -1", () -> bus.watched(-1, 0));
        CHECK.noIndex("watched before what", () -> bus.watched(2, 6));
        CHECK.badNumber("watched: what 6", () -> bus.watched(0, 6));
        CHECK.badNumber("watched: what -1", () -> bus.watched(0, -1));
        CHECK.noIndex("again -1", () -> bus.again(-1));
        CHECK.noIndex("again 2", () -> bus.again(2));
        CHECK.due("no tick has gone", bus.watched(0, 3), 0);
    }

    private static void nothing() {
        Bus bus = bus();
        for (int tick = 0; tick < 3; tick++) {
            CHECK.due("ticks", bus.watched(0, 3), tick);
            goes("nothing", bus);
        }
        CHECK.due("no rule", bus.watched(0, 0), 0);
        CHECK.due("no channel", bus.watched(0, 1), -1);
        CHECK.due("no tick", bus.watched(0, 2), -1);
        keeps("nothing", bus, 0, 0);
        bus.see(0, Check.R, Check.READY, 77, 511);
        bus.see(0, Check.B, Check.IDLE, 77, 511);
        goes("without VALID nothing counts", bus);
    }

    private static void toldAgain() {
        Bus bus = bus();
        bus.see(0, Check.B, Check.BOTH, 0, 0);
        bus.see(0, Check.B, Check.IDLE, 0, 0);
        goes("told again, and idle", bus);
        ar(bus, ONE, 5, 0, Check.BOTH);
        ar(bus, ONE, 6, 0, Check.BOTH);
        goes("told again", bus);
        keeps("told again", bus, 0, 1);
        r(bus, 6, 0, true);
        goes("the later one counts", bus);
        goes("wires are told for one tick", bus);
        keeps("none", bus, 0, 0);
        CHECK.badNumber("rest", () -> bus.see(0, Check.R, Check.BOTH, 0, 512));
        goes("a see that throws changes nothing", bus);
    }

    private static void fell() {
        for (int c : new int[] {Check.AW, Check.W, Check.AR}) {
            Bus bus = bus();
            bus.see(0, c, Check.VALID, Check.address(1, 0, ONE), 0);
            goes("held", bus);
            bus.see(0, c, Check.READY, Check.address(1, 0, ONE), 0);
            breaks("fell " + c, bus, 1, c);
        }
        Bus held = bus();
        ar(held, ONE, 1, 0, Check.VALID);
        goes("held 0", held);
        ar(held, ONE, 1, 0, Check.VALID);
        goes("held 1", held);
        ar(held, ONE, 1, 0, Check.BOTH);
        goes("transferred", held);
        goes("no longer held", held);
        keeps("one read", held, 0, 1);
        held.see(0, Check.R, Check.VALID, 3, 1 + LAST);
        goes("R is held", held);
        breaks("R fell", held, 1, Check.R);
        Bus write = bus();
        aw(write, ONE, 1, 0, Check.BOTH);
        w(write, LAST);
        goes("a write", write);
        write.see(0, Check.B, Check.VALID, 0, 1);
        goes("B is held", write);
        breaks("B fell", write, 1, Check.B);
    }

    private static void changed() {
        for (int c : new int[] {Check.AW, Check.W, Check.AR}) {
            Bus content = bus();
            content.see(0, c, Check.VALID, Check.address(1, 0, ONE), 0);
            goes("held", content);
            content.see(0, c, Check.BOTH, Check.address(2, 0, ONE), 0);
            breaks("another content " + c, content, 2, c);
            Bus rest = bus();
            rest.see(0, c, Check.VALID, Check.address(1, 0, ONE), 0);
            goes("held", rest);
            rest.see(0, c, Check.VALID, Check.address(1, 0, ONE), 1);
            breaks("another rest " + c, rest, 2, c);
        }
        Bus high = bus();
        high.see(0, Check.W, Check.VALID, 1L << 63, 0);
        goes("held", high);
        high.see(0, Check.W, Check.VALID, 0, 0);
        breaks("the highest bit", high, 2, Check.W);
    }

    private static void rulesOfBursts() {
        burst("kind", Check.how(1, 0, 3), 0, 3);
        burst("kind before all", Check.how(3, 0, 3) + Check.EXCLUSIVE, 1, 3);
        burst("wrap of 3", Check.how(3, 0, Check.WRAPPING), 0, 4);
        burst("wrap of 1", Check.how(1, 0, Check.WRAPPING), 0, 4);
        burst("wrap, not even", Check.how(2, 1, Check.WRAPPING), 1, 4);
        burst("wrap before exclusive", Check.how(2, 1, Check.WRAPPING) + Check.EXCLUSIVE, 1, 4);
        burst("page", Check.how(16, 3, Check.GROWING), 4096 - 120, 5);
        burst("page before exclusive", Check.how(16, 3, Check.GROWING) + Check.EXCLUSIVE, 4096 - 120, 5);
        burst("page's end", Check.how(16, 3, Check.GROWING), 4096 - 121, 0);
        burst("exclusive, fixed", Check.how(2, 3, Check.FIXED) + Check.EXCLUSIVE, 0, 6);
        burst("exclusive, 3", Check.how(3, 3, Check.GROWING) + Check.EXCLUSIVE, 0, 6);
        burst("exclusive, not even", Check.how(2, 3, Check.GROWING) + Check.EXCLUSIVE, 8, 6);
        burst("exclusive, 128", Check.how(16, 3, Check.WRAPPING) + Check.EXCLUSIVE, 128, 0);
    }

    private static void burst(String name, int how, int address, int rule) {
        for (int c : new int[] {Check.AW, Check.AR}) {
            Bus bus = bus();
            bus.judge(0);
            bus.see(0, c, Check.VALID, Check.address(63, address, how), 0);
            if (rule == 0) {
                goes(name, bus);
            } else {
                breaks(name, bus, rule, c);
            }
        }
    }

    private static void goodWrite() {
        Bus bus = bus();
        int how = Check.how(2, 2, Check.GROWING) + Check.EXCLUSIVE;
        aw(bus, how, 40, 8, Check.BOTH);
        w(bus, 15);
        goes("address and data", bus);
        keeps("a write", bus, 1, 0);
        w(bus, LAST + 0xF0);
        goes("last data", bus);
        b(bus, 40, 1);
        goes("answer", bus);
        keeps("no write", bus, 0, 0);
    }

    private static void goodRead() {
        Bus bus = bus();
        ar(bus, Check.how(2, 2, Check.GROWING) + Check.EXCLUSIVE, 40, 8, Check.BOTH);
        goes("address", bus);
        keeps("a read", bus, 0, 1);
        r(bus, 40, 1, false);
        goes("first beat", bus);
        keeps("still a read", bus, 0, 1);
        r(bus, 40, 2, true);
        goes("last beat", bus);
        keeps("no read", bus, 0, 0);
    }

    private static void noWrite() {
        Bus none = bus();
        b(none, 0, 0);
        breaks("no write", none, 9, Check.B);
        Bus address = bus();
        aw(address, ONE, 1, 0, Check.BOTH);
        goes("just an address", address);
        b(address, 1, 0);
        breaks("without data", address, 9, Check.B);
        Bus data = bus();
        w(data, LAST);
        goes("just data", data);
        b(data, 0, 0);
        breaks("without an address", data, 9, Check.B);
        Bus tick = bus();
        aw(tick, ONE, 1, 0, Check.BOTH);
        goes("address", tick);
        w(tick, LAST);
        b(tick, 1, 0);
        breaks("with its data in one tick", tick, 9, Check.B);
        Bus id = bus();
        aw(id, ONE, 1, 0, Check.BOTH);
        w(id, LAST);
        goes("all of it", id);
        id.see(0, Check.B, Check.VALID, 0, 2);
        breaks("another ID", id, 9, Check.B);
    }

    private static void noRead() {
        Bus none = bus();
        none.see(0, Check.R, Check.VALID, 0, 0);
        breaks("no read", none, 10, Check.R);
        Bus tick = bus();
        ar(tick, ONE, 1, 0, Check.BOTH);
        r(tick, 1, 0, true);
        breaks("with its address in one tick", tick, 10, Check.R);
        Bus id = bus();
        ar(id, ONE, 1, 0, Check.BOTH);
        goes("address", id);
        r(id, 33, 0, true);
        breaks("another ID", id, 10, Check.R);
        Bus gone = bus();
        ar(gone, ONE, 1, 0, Check.BOTH);
        goes("address", gone);
        r(gone, 1, 0, true);
        goes("beat", gone);
        r(gone, 1, 0, true);
        breaks("one beat more", gone, 10, Check.R);
    }

    private static void answerOfWrites() {
        Bus bus = bus();
        aw(bus, ONE, 1, 0, Check.BOTH);
        w(bus, LAST);
        goes("a write", bus);
        aw(bus, ONE + Check.EXCLUSIVE, 1, 0, Check.BOTH);
        w(bus, LAST);
        goes("an exclusive one", bus);
        b(bus, 1, 3);
        goes("the first one's answer", bus);
        b(bus, 1, 1);
        goes("the exclusive one's", bus);
        aw(bus, ONE, 1, 0, Check.BOTH);
        w(bus, LAST);
        goes("a write", bus);
        aw(bus, ONE + Check.EXCLUSIVE, 1, 0, Check.BOTH);
        w(bus, LAST);
        goes("an exclusive one", bus);
        b(bus, 1, 1);
        breaks("of the first one", bus, 11, Check.B);
    }

    private static void answerOfReads() {
        Bus bus = bus();
        ar(bus, ONE + Check.EXCLUSIVE, 1, 0, Check.BOTH);
        goes("an exclusive read", bus);
        ar(bus, ONE, 1, 0, Check.BOTH);
        r(bus, 1, 1, true);
        goes("exclusive okay", bus);
        r(bus, 1, 1, true);
        breaks("not exclusive", bus, 11, Check.R);
    }

    private static void lastOfReads() {
        Bus early = bus();
        ar(early, Check.how(2, 0, Check.GROWING), 1, 0, Check.BOTH);
        goes("address", early);
        r(early, 1, 1, true);
        breaks("LAST too early, before the answer", early, 7, Check.R);
        Bus late = bus();
        ar(late, Check.how(2, 0, Check.GROWING), 1, 0, Check.BOTH);
        goes("address", late);
        r(late, 1, 0, false);
        goes("first", late);
        r(late, 1, 0, false);
        breaks("not LAST", late, 7, Check.R);
        Bus ids = bus();
        ar(ids, Check.how(2, 0, Check.GROWING), 1, 0, Check.BOTH);
        goes("address", ids);
        ar(ids, Check.how(2, 0, Check.GROWING), 2, 0, Check.BOTH);
        goes("address", ids);
        r(ids, 2, 0, false);
        goes("of 2", ids);
        r(ids, 1, 0, false);
        goes("of 1", ids);
        r(ids, 2, 0, true);
        goes("last of 2", ids);
        keeps("1 stays", ids, 0, 1);
    }

    private static void lastOfWrites() {
        Bus early = bus();
        aw(early, Check.how(2, 0, Check.GROWING), 1, 0, Check.BOTH);
        w(early, LAST + 1);
        breaks("LAST too early", early, 7, Check.W);
        Bus late = bus();
        aw(late, ONE, 1, 0, Check.BOTH);
        goes("address", late);
        w(late, 1);
        breaks("not LAST", late, 7, Check.W);
        Bus held = bus();
        aw(held, ONE, 1, 0, Check.BOTH);
        held.see(0, Check.W, Check.VALID, 0, 1);
        goes("not before it is transferred", held);
        w(held, 1);
        breaks("but then", held, 7, Check.W);
    }

    private static void strobes() {
        int how = Check.how(3, 1, Check.GROWING);
        Bus good = bus();
        aw(good, how, 1, 5, Check.BOTH);
        w(good, 0x20);
        goes("byte 5", good);
        w(good, 0xC0);
        goes("bytes 6 and 7", good);
        w(good, LAST + 3);
        goes("bytes 8 and 9", good);
        int[] wrong = {0x10, 0x40, 1};
        for (int rest : wrong) {
            Bus bad = bus();
            aw(bad, how, 1, 5, Check.BOTH);
            w(bad, rest);
            breaks("strobes " + rest, bad, 8, Check.W);
        }
        Bus both = bus();
        aw(both, ONE, 1, 7, Check.BOTH);
        w(both, 1);
        breaks("LAST before strobes", both, 7, Check.W);
        Bus wrap = bus();
        aw(wrap, Check.how(2, 2, Check.WRAPPING), 1, 4, Check.BOTH);
        w(wrap, 0xF0);
        goes("bytes 4 to 7", wrap);
        w(wrap, LAST + 0xF0);
        breaks("it wraps to 0", wrap, 8, Check.W);
        Bus fixed = bus();
        aw(fixed, Check.how(2, 2, Check.FIXED), 1, 4, Check.BOTH);
        w(fixed, 0xF0);
        goes("bytes 4 to 7", fixed);
        w(fixed, LAST + 0xF0);
        goes("and again", fixed);
    }

    private static void dataBeforeAddress() {
        Bus bus = bus();
        w(bus, 0xFF);
        goes("a beat", bus);
        w(bus, LAST + 0xFF);
        goes("its last", bus);
        w(bus, LAST + 1);
        goes("of another write", bus);
        keeps("two writes", bus, 2, 0);
        aw(bus, Check.how(2, 3, Check.GROWING), 1, 0, Check.BOTH);
        goes("the first one's address", bus);
        b(bus, 1, 0);
        goes("its answer", bus);
        keeps("one write", bus, 1, 0);
        aw(bus, ONE, 2, 1, Check.BOTH);
        breaks("a strobe of no byte", bus, 8, Check.AW);
        Bus late = bus();
        w(late, 0);
        goes("a beat", late);
        w(late, 0);
        goes("a beat", late);
        aw(late, ONE, 2, 1, Check.BOTH);
        breaks("more beats than its length", late, 7, Check.AW);
        Bus early = bus();
        w(early, LAST);
        goes("a beat", early);
        aw(early, Check.how(2, 3, Check.GROWING), 2, 0, Check.BOTH);
        breaks("fewer beats", early, 7, Check.AW);
        Bus between = bus();
        w(between, 0);
        goes("a beat", between);
        aw(between, Check.how(2, 3, Check.GROWING), 2, 0, Check.BOTH);
        w(between, LAST);
        goes("address and last beat in one tick", between);
        b(between, 2, 0);
        goes("answer", between);
        keeps("none", between, 0, 0);
    }

    private static void fullReads() {
        Bus bus = bus();
        for (int i = 0; i < 16; i++) {
            ar(bus, ONE, i, 0, Check.BOTH);
            goes("read " + i, bus);
        }
        keeps("16 reads", bus, 0, 16);
        ar(bus, ONE, 1, 0, Check.VALID);
        goes("VALID alone", bus);
        ar(bus, ONE, 1, 0, Check.BOTH);
        breaks("17th read", bus, 12, Check.AR);
        keeps("still 16", bus, 0, 16);
    }

    private static void fullWrites() {
        Bus addresses = bus();
        for (int i = 0; i < 16; i++) {
            aw(addresses, ONE, i, 0, Check.BOTH);
            goes("address " + i, addresses);
        }
        for (int i = 0; i < 16; i++) {
            w(addresses, LAST);
            goes("data " + i, addresses);
        }
        keeps("16 writes", addresses, 16, 0);
        addresses.see(0, Check.W, Check.BOTH, 0, LAST);
        breaks("data of a 17th", addresses, 12, Check.W);
        Bus data = bus();
        for (int i = 0; i < 16; i++) {
            w(data, LAST);
            goes("data " + i, data);
        }
        for (int i = 0; i < 16; i++) {
            aw(data, ONE, i, 0, Check.BOTH);
            goes("address " + i, data);
        }
        aw(data, ONE, 0, 0, Check.BOTH);
        breaks("a 17th address", data, 12, Check.AW);
        keeps("still 16", data, 16, 0);
    }

    private static void seventeenthBeat() {
        Bus bus = bus();
        for (int i = 0; i < 16; i++) {
            w(bus, 0);
            goes("beat " + i, bus);
        }
        w(bus, LAST);
        breaks("a 17th beat", bus, 7, Check.W);
    }

    private static void orderInATick() {
        Bus channels = bus();
        aw(channels, Check.how(1, 0, 3), 0, 0, Check.VALID);
        b(channels, 0, 0);
        r(channels, 0, 0, true);
        breaks("the least channel", channels, 3, Check.AW);
        Bus later = bus();
        later.see(0, Check.W, Check.VALID, 0, 0);
        ar(later, ONE, 0, 0, Check.VALID);
        goes("held", later);
        b(later, 0, 0);
        later.see(0, Check.W, Check.VALID, 0, 0);
        breaks("B before AR that fell", later, 9, Check.B);
        Bus transfers = bus();
        aw(transfers, ONE, 0, 0, Check.BOTH);
        w(transfers, 0);
        r(transfers, 0, 0, true);
        breaks("wires before transfers", transfers, 10, Check.R);
        keeps("no transfer counts", transfers, 0, 0);
        Bus sorts = bus();
        for (int i = 0; i < 16; i++) {
            ar(sorts, ONE, i, 0, Check.BOTH);
            goes("read " + i, sorts);
        }
        aw(sorts, ONE, 0, 0, Check.BOTH);
        w(sorts, 0);
        ar(sorts, ONE, 0, 0, Check.BOTH);
        breaks("AR before AW and W", sorts, 12, Check.AR);
        keeps("no AW counts", sorts, 0, 16);
    }

    private static void faultStays() {
        Bus bus = bus();
        goes("tick 0", bus);
        b(bus, 0, 0);
        breaks("no write", bus, 9, Check.B);
        r(bus, 0, 0, true);
        CHECK.due("by now", bus.judge(0), 9);
        ar(bus, ONE, 0, 0, Check.BOTH);
        CHECK.due("by now", bus.judge(0), 9);
        CHECK.due("channel stays", bus.watched(0, 1), Check.B);
        CHECK.due("tick stays", bus.watched(0, 2), 1);
        CHECK.due("ticks go on", bus.watched(0, 3), 4);
        keeps("nothing is kept more", bus, 0, 0);
        bus.see(0, Check.R, Check.BOTH, 0, 0);
        bus.again(0);
        CHECK.due("again: ticks", bus.watched(0, 3), 0);
        CHECK.due("again: rule", bus.watched(0, 0), 0);
        CHECK.due("again: channel", bus.watched(0, 1), -1);
        CHECK.due("again: tick", bus.watched(0, 2), -1);
        goes("again: what was seen is gone", bus);
        ar(bus, ONE, 0, 0, Check.VALID);
        goes("held", bus);
        bus.again(0);
        goes("again: nothing is held", bus);
        keeps("again", bus, 0, 0);
    }

    private static void answersMakeRoom() {
        Bus bus = bus();
        for (int i = 0; i < 16; i++) {
            aw(bus, ONE, i, 0, Check.BOTH);
            ar(bus, ONE, i, 0, Check.BOTH);
            w(bus, LAST);
            goes("both " + i, bus);
        }
        keeps("16 of both", bus, 16, 16);
        b(bus, 3, 0);
        r(bus, 4, 0, true);
        aw(bus, ONE, 63, 0, Check.BOTH);
        w(bus, LAST);
        ar(bus, ONE, 62, 0, Check.BOTH);
        goes("two go, two come", bus);
        keeps("16 of both again", bus, 16, 16);
        b(bus, 63, 0);
        r(bus, 62, 0, true);
        goes("and go", bus);
        keeps("15 of both", bus, 15, 15);
    }

    private static void twoWatchers() {
        Bus bus = bus();
        bus.see(1, Check.B, Check.VALID, 0, 0);
        goes("watcher 0", bus);
        CHECK.due("watcher 1", bus.judge(1), 9);
        CHECK.due("ticks of 1", bus.watched(1, 3), 1);
        CHECK.due("tick of 1", bus.watched(1, 2), 0);
        bus.again(0);
        CHECK.due("again of the other one", bus.watched(1, 0), 9);
        bus.request(0, 0, 0, 0, 0);
        bus.tick(10);
        CHECK.due("ticks of the bus are others", bus.watched(1, 3), 1);
        CHECK.due("and so are its ports", bus.port(Check.MASTER, 0, 5), 0);
    }
}
