import java.util.function.Consumer;
import java.util.function.ToIntFunction;

/**
 * Promises 1, 2, 3, 6, 7, 8, 18, section 1, and what the document says of all calls: a test for each sentence
 * that names an edge.
 */
public final class EdgesOfCallsTest {
    private static final int LEAST = Integer.MIN_VALUE, MOST = Integer.MAX_VALUE;
    private static final int SPACES = 0x20202020;
    /** It takes nine BITS, has FAILURES that are taken and one that is not, and a METHOD that comes with a cut. */
    private static final String RICH = "on 0{loop 9{either{say 1;}or{say 2;}}cut 1{try{ask 1 0;}else{say 3;}call 1;}}"
            + "on 1{say 4;ask 0 5;say 5;}";

    public static void main(String[] args) {
        ofAllCalls();
        ofANewObject();
        ofTheTape();
        ofRules();
        ofBits();
        ofCounts();
        ofRefusedCalls();
        ofSeveralRefusals();
        Checks.end();
    }

    private static void ofAllCalls() {
        Sentence.test("1 to 18", "An object is used for at most 512 calls", EdgesOfCallsTest::the512thCall);
        Sentence.test("1 to 18", "public static final int NONE = -1, OUTSIDE = -3, STATE = -4, FULL = -5, MANY = -6;",
                EdgesOfCallsTest::constants);
    }

    private static void ofANewObject() {
        Sentence.test("1", "No program;", EdgesOfCallsTest::newWithoutProgram);
        Sentence.test("1", "no RULES, BITS, NOTES.", EdgesOfCallsTest::newWithoutRulesBitsNotes);
    }

    private static void ofTheTape() {
        Sentence.test("2", "Twenty bytes come behind the tape", EdgesOfCallsTest::bytesComeBehindTheTape);
        Sentence.test("2", "the highest of each number first", EdgesOfCallsTest::theHighestByteFirst);
        Sentence.test("2", "how many it has.", EdgesOfCallsTest::howManyTheTapeHas);
        Sentence.test("2", "FULL: it would have more than 1200.", EdgesOfCallsTest::tapeFull);
        Sentence.test("3", "The tape keeps its first n bytes: n.", EdgesOfCallsTest::trimKeepsTheFirst);
        Sentence.test("3", "OUTSIDE.", EdgesOfCallsTest::trimOutside);
    }

    private static void ofRules() {
        Sentence.test("6", "7 have RULES: for each KIND of right 0 .. 7 a LEVEL", EdgesOfCallsTest::ownersAndKinds);
        Sentence.test("6", "-1 (none; at first) .. 9.", EdgesOfCallsTest::levels);
        Sentence.test("6", "an owner HAS it, if its RULE for that KIND is not below the LEVEL.", EdgesOfCallsTest::ownerHas);
        Sentence.test("6", "An OWNER's RULE for a KIND is a LEVEL: what it was.", EdgesOfCallsTest::whatTheRuleWas);
        Sentence.test("6", "OUTSIDE.", EdgesOfCallsTest::ruleOutside);
    }

    private static void ofBits() {
        Sentence.test("7", "The lowest n bits (1 .. 32) of v, the lowest first", EdgesOfCallsTest::theLowestBits);
        Sentence.test("7", "come behind the BITS: how many there are.", EdgesOfCallsTest::bitsComeBehind);
        Sentence.test("7", "OUTSIDE; FULL: more than 400.", EdgesOfCallsTest::bitsOutsideAndFull);
        Sentence.test("8", "There are no BITS: how many there were.", EdgesOfCallsTest::forgetAll);
    }

    private static void ofCounts() {
        Sentence.test("18", "What 0: bytes of the tape", EdgesOfCallsTest::countBytes);
        Sentence.test("18", "1 BITS, 2 NOTES", EdgesOfCallsTest::countBitsAndNotes);
        Sentence.test("18", "3 how many RULES are not -1.", EdgesOfCallsTest::countRules);
        Sentence.test("18", "OUTSIDE.", EdgesOfCallsTest::countOutside);
    }

    private static void ofRefusedCalls() {
        String words = "REFUSED calls change nothing (but the tape)";
        Sentence.test("2", words, EdgesOfCallsTest::feedRefused);
        Sentence.test("3", words, EdgesOfCallsTest::trimRefused);
        Sentence.test("4", words, EdgesOfCallsTest::programWithFault);
        Sentence.test("6", words, EdgesOfCallsTest::ruleRefused);
        Sentence.test("7", words, EdgesOfCallsTest::bitsRefused);
        Sentence.test("9", words, EdgesOfCallsTest::aboutRefused);
        Sentence.test("10", words, EdgesOfCallsTest::stepRefused);
        Sentence.test("11", words, EdgesOfCallsTest::runRefused);
        Sentence.test("12", words, EdgesOfCallsTest::ranRefused);
        Sentence.test("13", words, EdgesOfCallsTest::noteRefused);
        Sentence.test("14", words, EdgesOfCallsTest::aheadRefused);
        Sentence.test("15", words, EdgesOfCallsTest::walkedRefused);
        Sentence.test("16", words, EdgesOfCallsTest::toldRefused);
        Sentence.test("17", words, EdgesOfCallsTest::pairRefused);
        Sentence.test("18", words, EdgesOfCallsTest::countRefused);
    }

    private static void ofSeveralRefusals() {
        String words = "Of several the first in the order in which the call tells them.";
        Sentence.test("7", words, EdgesOfCallsTest::bitsOutsideAheadOfFull);
        Sentence.test("9", words, EdgesOfCallsTest::aboutOutsideAheadOfState);
        Sentence.test("10", words, EdgesOfCallsTest::stepStateAheadOfOutside);
        Sentence.test("11", words, EdgesOfCallsTest::runStateAheadOfOutside);
        Sentence.test("12", words, EdgesOfCallsTest::ranOutsideAheadOfNone);
        Sentence.test("14", words, EdgesOfCallsTest::aheadStateOutsideMany);
        Sentence.test("15", words, EdgesOfCallsTest::walkedStateAheadOfOutside);
        Sentence.test("16", words, EdgesOfCallsTest::toldStateAheadOfOutside);
        Sentence.test("17", words, EdgesOfCallsTest::pairStateAheadOfOutside);
    }

    // ---- all calls

    private static void the512thCall() {
        SealKeeper x = new SealKeeper();
        int calls = 0;
        for (int i = 0; i < 60; i++, calls++) {
            x.feed(SPACES, SPACES, SPACES, SPACES, SPACES);
        }
        x.trim(0);
        // on 0{loop 99{loop 99{keep 0;under 0{ask 0 0;}}}}
        x.feed(0x6F6E2030, 0x7B6C6F6F, 0x70203939, 0x7B6C6F6F, 0x70203939);
        x.feed(0x7B6B6565, 0x7020303B, 0x756E6465, 0x7220307B, 0x61736B20);
        x.feed(0x3020303B, 0x7D7D7D7D, SPACES, SPACES, SPACES);
        Checks.due("program()", x.program(), 1);
        x.rule(0, 0, 0);
        for (calls += 6; calls < 511; calls++) {
            Checks.due("run as call " + (calls + 1), x.run(0, 3000), 1);
        }
        Checks.due("ran(7) as call 512", x.ran(7), 996);
        x = Checks.generous(Texts.crowd(3, 5, 6));
        for (calls = 120; calls < 511; calls++) {
            Checks.due("ahead as call " + (calls + 1), x.ahead(0), 300);
        }
        Checks.due("pair as call 512", x.pair(0, 255, 7, 0), 0);
        x = new SealKeeper();
        for (calls = 0; calls < 512; calls += 2) {
            Checks.due("feed as call " + (calls + 1), x.feed(0x6F6E2031, 0x7B7D6F6E, 0x20327B7D, SPACES, SPACES), 20);
            Checks.due("program as call " + (calls + 2), x.program(), 2);
        }
    }

    private static void constants() {
        Checks.due("NONE", SealKeeper.NONE, -1);
        Checks.due("OUTSIDE", SealKeeper.OUTSIDE, -3);
        Checks.due("STATE", SealKeeper.STATE, -4);
        Checks.due("FULL", SealKeeper.FULL, -5);
        Checks.due("MANY", SealKeeper.MANY, -6);
    }

    // ---- a new object

    private static void newWithoutProgram() {
        SealKeeper x = new SealKeeper();
        for (int what = 0; what < 4; what++) {
            Checks.due("about(" + what + ")", x.about(what), SealKeeper.STATE);
            Checks.due("step(0, " + what + ")", x.step(0, what), SealKeeper.STATE);
        }
        Checks.due("run(0, 0)", x.run(0, 0), SealKeeper.STATE);
        Checks.due("run(0, 3000)", x.run(0, 3000), SealKeeper.STATE);
        Checks.due("ahead(0)", x.ahead(0), SealKeeper.STATE);
        Checks.due("walked(0, 0)", x.walked(0, 0), SealKeeper.STATE);
        Checks.due("told(0)", x.told(0), SealKeeper.STATE);
        Checks.due("pair(0, 0, 0, 0)", x.pair(0, 0, 0, 0), SealKeeper.STATE);
        for (int what = 0; what < 8; what++) {
            Checks.due("ran(" + what + ")", x.ran(what), SealKeeper.NONE);
        }
        Checks.due("fault() without a text", x.fault(), 0);
        Checks.due("count(0)", x.count(0), 0);
        Checks.due("program() of no bytes", x.program(), -100);
        Checks.due("fault()", x.fault(), 1);
    }

    private static void newWithoutRulesBitsNotes() {
        SealKeeper x = new SealKeeper();
        for (int what = 0; what < 4; what++) {
            Checks.due("count(" + what + ")", x.count(what), 0);
        }
        Checks.due("note(0)", x.note(0), SealKeeper.NONE);
        Checks.due("forget()", x.forget(), 0);
        for (int owner = 0; owner < 8; owner++) {
            for (int kind = 0; kind < 8; kind++) {
                Checks.due("rule(" + owner + ", " + kind + ", -1)", x.rule(owner, kind, -1), -1);
            }
        }
        Checks.read(x, "on 0{ask 0 0;}on 7{ask 7 0;}on 3{either{say 1;}or{say 2;}}");
        x.run(0, 9);
        Checks.dueNotes(x, "owner 0 has no right", 11000);
        x.run(1, 9);
        Checks.dueNotes(x, "owner 7 has no right", 18001);
        x.run(2, 9);
        Checks.dueNotes(x, "no bit is 1", 2);
        Checks.due("no bit is taken", x.ran(5), 0);
    }

    // ---- the tape

    /** Feeds twenty bytes that are all spaces but for one. */
    private static int feedOne(SealKeeper x, int place, int value) {
        int[] n = {SPACES, SPACES, SPACES, SPACES, SPACES};
        int shift = 24 - place % 4 * 8;
        n[place / 4] = SPACES & ~(255 << shift) | value << shift;
        return x.feed(n[0], n[1], n[2], n[3], n[4]);
    }

    private static void bytesComeBehindTheTape() {
        for (int value : new int[] {0, 64, 127, 128, 255}) {
            SealKeeper x = new SealKeeper();
            for (int place = 0; place < 20; place++) {
                Checks.due("the first feed", feedOne(x, place, value), 20);
                Checks.due("byte " + value + " at " + place, x.program(), -100 - place);
                Checks.due("spaces", x.feed(SPACES, SPACES, SPACES, SPACES, SPACES), 20);
                Checks.due("the second feed", feedOne(x, place, value), 40);
                Checks.due("byte " + value + " at " + (20 + place), x.program(), -120 - place);
            }
        }
    }

    private static void theHighestByteFirst() {
        SealKeeper x = new SealKeeper();
        Checks.due("on 3{say 12;back;}", x.feed(0x6F6E2033, 0x7B736179, 0x2031323B, 0x6261636B, 0x3B7D2020), 20);
        Checks.due("program()", x.program(), 1);
        Checks.due("step(0, 0)", x.step(0, 0), 9);
        Checks.due("step(0, 2)", x.step(0, 2), 12);
        Checks.due("step(1, 0)", x.step(1, 0), 12);
        Checks.due("the least number", x.feed(LEAST, SPACES, SPACES, SPACES, SPACES), 20);
        Checks.due("byte 128 first", x.program(), -100);
        Checks.due("the number 64", x.feed(SPACES, SPACES, SPACES, SPACES, 64 | SPACES & ~255), 20);
        Checks.due("byte 64 last", x.program(), -119);
        Checks.due("-1", x.feed(SPACES, SPACES, -1, SPACES, SPACES), 20);
        Checks.due("byte 255", x.program(), -108);
    }

    private static void howManyTheTapeHas() {
        SealKeeper x = new SealKeeper();
        for (int i = 1; i <= 60; i++) {
            Checks.due("feed " + i, x.feed(LEAST, MOST, 0, -1, i), 20 * i);
            Checks.due("count(0)", x.count(0), 20 * i);
        }
        x.trim(1);
        Checks.due("behind one byte", x.feed(0, 0, 0, 0, 0), 21);
    }

    private static void tapeFull() {
        for (int room = 0; room <= 21; room++) {
            SealKeeper x = new SealKeeper();
            Checks.tape(x, " ".repeat(1200 - room));
            boolean taken = room >= 20;
            Checks.due("feed with room for " + room, x.feed(0, 0, 0, 0, 0), taken ? 1220 - room : SealKeeper.FULL);
            Checks.due("count(0)", x.count(0), taken ? 1220 - room : 1200 - room);
        }
        SealKeeper x = new SealKeeper();
        Checks.tape(x, Texts.filled("on 1{}", 1199) + "@");
        Checks.due("the byte at 1199 is read", x.program(), -1299);
        Checks.due("there is room again", x.feed(0, 0, 0, 0, 0), 20);
    }

    private static void trimKeepsTheFirst() {
        SealKeeper x = new SealKeeper();
        Checks.due("trim(0) of no bytes", x.trim(0), 0);
        Checks.tape(x, "on 1{}on 2{}on 3{}");
        Checks.due("trim to all", x.trim(18), 18);
        Checks.due("count(0)", x.count(0), 18);
        Checks.due("trim by one", x.trim(17), 17);
        Checks.due("count(0)", x.count(0), 17);
        Checks.due("trim(6)", x.trim(6), 6);
        Checks.tape(x, "on 4{say 5;}");
        Checks.due("the first bytes, and those behind them", x.program(), 2);
        Checks.due("step(0, 1)", x.step(0, 1), 1);
        Checks.tape(x, Texts.filled("on 1{}", 1200));
        Checks.due("trim(1200)", x.trim(1200), 1200);
        Checks.due("trim(1)", x.trim(1), 1);
        Checks.due("trim(0)", x.trim(0), 0);
        Checks.due("nothing is left", x.program(), -100);
    }

    private static void trimOutside() {
        SealKeeper x = new SealKeeper();
        Checks.due("trim(1) of no bytes", x.trim(1), SealKeeper.OUTSIDE);
        for (int size : new int[] {20, 1200}) {
            Checks.tape(x, " ".repeat(size - x.count(0)));
            for (int n : new int[] {-1, size + 1, 1201, LEAST, MOST}) {
                Checks.due("trim(" + n + ") of " + size, x.trim(n), SealKeeper.OUTSIDE);
                Checks.due("count(0)", x.count(0), size);
            }
            Checks.due("the last that is taken", x.trim(size), size);
        }
    }

    // ---- rules

    private static void ownersAndKinds() {
        SealKeeper x = new SealKeeper();
        Checks.due("owner 0, kind 0", x.rule(0, 0, 1), -1);
        Checks.due("owner 7, kind 7", x.rule(7, 7, 2), -1);
        Checks.due("owner 0, kind 7", x.rule(0, 7, 3), -1);
        Checks.due("owner 7, kind 0", x.rule(7, 0, 4), -1);
        for (int wrong : new int[] {-1, 8, LEAST, MOST}) {
            Checks.due("owner " + wrong, x.rule(wrong, 0, 0), SealKeeper.OUTSIDE);
            Checks.due("kind " + wrong, x.rule(0, wrong, 0), SealKeeper.OUTSIDE);
        }
        Checks.due("owner 0, kind 0 stays", x.rule(0, 0, -1), 1);
        Checks.due("owner 7, kind 7 stays", x.rule(7, 7, -1), 2);
        Checks.due("owner 0, kind 7 stays", x.rule(0, 7, -1), 3);
        Checks.due("owner 7, kind 0 stays", x.rule(7, 0, -1), 4);
    }

    private static void levels() {
        SealKeeper x = new SealKeeper();
        int before = -1;
        for (int level = -1; level <= 9; level++) {
            Checks.due("level " + level, x.rule(2, 5, level), before);
            before = level;
        }
        for (int wrong : new int[] {-2, 10, LEAST, MOST}) {
            Checks.due("level " + wrong, x.rule(2, 5, wrong), SealKeeper.OUTSIDE);
            Checks.due("the level stays", x.rule(2, 5, 9), 9);
        }
        Checks.due("none again", x.rule(2, 5, -1), 9);
        Checks.due("count(3)", x.count(3), 0);
    }

    private static void ownerHas() {
        StringBuilder text = new StringBuilder();
        for (int level = 0; level < 10; level++) {
            text.append("on 7{ask 7 ").append(level).append(";}");
        }
        SealKeeper x = Checks.keeper(text.toString());
        for (int rule = -1; rule <= 9; rule++) {
            x.rule(7, 7, rule);
            for (int level = 0; level < 10; level++) {
                x.run(level, 1);
                Checks.due("rule " + rule + ", level " + level + ": failures", x.ran(2), rule < level ? 1 : 0);
            }
        }
        x = Checks.generous("on 3{ask 4 0;}");
        x.rule(3, 4, -1);
        x.run(0, 1);
        Checks.dueNotes(x, "other kinds and owners do not help", 14000);
    }

    private static void whatTheRuleWas() {
        SealKeeper x = new SealKeeper();
        for (int cell = 0; cell < 64; cell++) {
            Checks.due("first", x.rule(cell / 8, cell % 8, cell % 10), -1);
        }
        for (int cell = 0; cell < 64; cell++) {
            Checks.due("then", x.rule(cell / 8, cell % 8, (cell + 5) % 11 - 1), cell % 10);
        }
        for (int cell = 0; cell < 64; cell++) {
            Checks.due("at last", x.rule(cell / 8, cell % 8, -1), (cell + 5) % 11 - 1);
        }
        Checks.due("the same again", x.rule(1, 1, -1), -1);
    }

    private static void ruleOutside() {
        SealKeeper x = Checks.generous("on 0{}");
        int[][] wrong = {{-1, 0, 0}, {8, 0, 0}, {0, -1, 0}, {0, 8, 0}, {0, 0, -2}, {0, 0, 10}, {-1, 8, 10}, {8, 8, 9},
            {1, -8, 0}, {-1, 16, 0}, {LEAST, LEAST, LEAST}, {MOST, MOST, MOST}, {1 << 29, 0, 0}, {0, 0, LEAST}, {0, 0, MOST}};
        for (int[] w : wrong) {
            Checks.due("rule(" + w[0] + ", " + w[1] + ", " + w[2] + ")", x.rule(w[0], w[1], w[2]), SealKeeper.OUTSIDE);
        }
        for (int cell = 0; cell < 64; cell++) {
            Checks.due("all stay", x.rule(cell / 8, cell % 8, 9), 9);
        }
    }

    // ---- bits

    /** The BITS as a run takes them; it takes more than there can be. */
    private static final String TAKE_ALL = "on 0{loop 5{loop 81{either{say 1;}or{say 0;}}}}";

    private static void dueBits(SealKeeper x, String what, String bits) {
        Checks.due(what + ": run", x.run(0, 3000), 0);
        Checks.due(what + ": taken", x.ran(5), bits.length());
        for (int i = 0; i < bits.length(); i++) {
            Checks.due(what + ": bit " + i, x.note(i), bits.charAt(i) - '0');
        }
        Checks.due(what + ": none is 1 behind them", x.note(bits.length()), 0);
    }

    private static void theLowestBits() {
        SealKeeper x = Checks.keeper(TAKE_ALL);
        int[][] cases = {{1, 1}, {0, 1}, {2, 1}, {-1, 1}, {13, 4}, {-2, 3}, {LEAST, 31}, {LEAST, 32}, {MOST, 31}, {MOST, 32},
            {0x40000001, 32}};
        String[] due = {"1", "0", "0", "1", "1011", "011", "0".repeat(31), "0".repeat(31) + "1", "1".repeat(31),
            "1".repeat(31) + "0", "1" + "0".repeat(29) + "10"};
        for (int i = 0; i < cases.length; i++) {
            x.forget();
            String call = "bits(" + cases[i][0] + ", " + cases[i][1] + ")";
            Checks.due(call, x.bits(cases[i][0], cases[i][1]), cases[i][1]);
            dueBits(x, call, due[i]);
        }
    }

    private static void bitsComeBehind() {
        SealKeeper x = Checks.keeper(TAKE_ALL);
        Checks.due("the first", x.bits(1, 1), 1);
        Checks.due("behind it", x.bits(6, 3), 4);
        Checks.due("behind those", x.bits(0, 32), 36);
        Checks.due("behind all", x.bits(1, 2), 38);
        dueBits(x, "in their order", "1" + "011" + "0".repeat(32) + "10");
        Checks.due("they stay", x.count(1), 38);
    }

    private static SealKeeper withBits(String text, int bits) {
        SealKeeper x = Checks.keeper(text);
        for (int left = bits; left > 0; left -= 32) {
            x.bits(-1, Math.min(left, 32));
        }
        Checks.due("count(1)", x.count(1), bits);
        return x;
    }

    private static void bitsOutsideAndFull() {
        SealKeeper x = withBits(TAKE_ALL, 3);
        for (int wrong : new int[] {0, -1, 33, 64, 400, -32, LEAST, MOST}) {
            Checks.due("bits(1, " + wrong + ")", x.bits(1, wrong), SealKeeper.OUTSIDE);
            Checks.due("count(1)", x.count(1), 3);
        }
        for (int room = 0; room <= 33; room++) {
            x = withBits(TAKE_ALL, 400 - room);
            Checks.due("one more than there is room for", x.bits(-1, Math.min(room + 1, 32)),
                    room < 32 ? SealKeeper.FULL : 432 - room);
            Checks.due("count(1)", x.count(1), room < 32 ? 400 - room : 432 - room);
            if (room > 0 && room < 32) {
                Checks.due("as many as there is room for", x.bits(-1, room), 400);
            }
        }
        x = withBits(TAKE_ALL, 399);
        Checks.due("the 400th", x.bits(0, 1), 400);
        Checks.due("the 401st", x.bits(1, 1), SealKeeper.FULL);
        dueBits(x, "all of them", "1".repeat(399) + "0");
    }

    private static void forgetAll() {
        SealKeeper x = new SealKeeper();
        Checks.due("none", x.forget(), 0);
        x.bits(1, 1);
        Checks.due("one", x.forget(), 1);
        Checks.due("none are left", x.forget(), 0);
        x = withBits(TAKE_ALL, 400);
        Checks.due("all", x.forget(), 400);
        Checks.due("count(1)", x.count(1), 0);
        dueBits(x, "none are left", "");
        Checks.due("there is room again", x.bits(2, 2), 2);
        dueBits(x, "from the first one on", "01");
    }

    // ---- counts

    private static void countBytes() {
        SealKeeper x = new SealKeeper();
        Checks.due("none", x.count(0), 0);
        Checks.tape(x, "@".repeat(1200));
        Checks.due("all", x.count(0), 1200);
        x.trim(1);
        Checks.due("one", x.count(0), 1);
        x.program();
        Checks.due("none after a fault", x.count(0), 0);
        Checks.read(x, "on 1{}");
        Checks.due("none after a program", x.count(0), 0);
    }

    private static void countBitsAndNotes() {
        SealKeeper x = withBits("on 0{loop 99{" + "say 9;".repeat(31) + "}}on 0{}", 400);
        Checks.due("no notes", x.count(2), 0);
        x.run(0, 3000);
        Checks.due("the most notes", x.count(2), 2999);
        Checks.due("the last of them", x.note(2998), 9);
        Checks.due("none behind it", x.note(2999), SealKeeper.NONE);
        Checks.due("the bits stay", x.count(1), 400);
        x.run(1, 3000);
        Checks.due("no notes", x.count(2), 0);
        x.forget();
        Checks.due("no bits", x.count(1), 0);
    }

    private static void countRules() {
        SealKeeper x = new SealKeeper();
        for (int cell = 0; cell < 64; cell++) {
            x.rule(cell / 8, cell % 8, cell % 10);
            Checks.due("count(3)", x.count(3), cell + 1);
        }
        x.rule(0, 0, 9);
        Checks.due("one that was there", x.count(3), 64);
        for (int cell = 63; cell >= 0; cell--) {
            x.rule(cell / 8, cell % 8, -1);
            Checks.due("count(3)", x.count(3), cell);
        }
    }

    private static void countOutside() {
        SealKeeper x = new SealKeeper();
        for (int wrong : new int[] {-1, 4, LEAST, MOST}) {
            Checks.due("count(" + wrong + ")", x.count(wrong), SealKeeper.OUTSIDE);
        }
        Checks.due("the first that is taken", x.count(0), 0);
        Checks.due("the last that is taken", x.count(3), 0);
    }

    // ---- refused calls

    private static void rich(SealKeeper x) {
        Checks.read(x, RICH);
        x.rule(0, 0, 9);
        x.rule(0, 1, 3);
        x.rule(1, 0, 4);
        x.bits(0x135, 9);
        x.run(0, 3000);
        x.ahead(0);
        Checks.tape(x, "on 5{say 77;ask 3 2;}");
    }

    private static void dueUnchanged(String call, ToIntFunction<SealKeeper> refused, int answer) {
        Twins.dueUnchanged(call, EdgesOfCallsTest::rich, refused, answer);
    }

    private static void feedRefused() {
        for (int bytes : new int[] {1181, 1200}) {
            Consumer<SealKeeper> full = x -> {
                rich(x);
                x.trim(0);
                Checks.tape(x, Texts.filled("on 5{say 77;}", bytes - 1) + "@");
            };
            Twins.dueUnchanged("feed behind " + bytes, full, x -> x.feed(1, 2, 3, 4, 5), SealKeeper.FULL);
        }
    }

    private static void trimRefused() {
        for (int n : new int[] {-1, 22, 1200, LEAST, MOST}) {
            dueUnchanged("trim(" + n + ")", x -> x.trim(n), SealKeeper.OUTSIDE);
        }
    }

    private static void programWithFault() {
        String[] faulty = {"", "on 5{say 77;", "on 5{ask 8 0;}", Texts.nested(13, ""), Texts.methods(21), "on 5{call 1;}"};
        int[] answers = {-100, -112, -109, -100 - Texts.nested(13, "").lastIndexOf('{'), -220, -110};
        for (int i = 0; i < faulty.length; i++) {
            String text = faulty[i];
            SealKeeper one = new SealKeeper();
            rich(one);
            one.trim(0);
            Checks.due("a fault " + i, Checks.read(one, text), answers[i]);
            Checks.due("its fault", one.fault(), i == 0 ? 1 : i);
            Checks.due("the tape is empty", one.count(0), 0);
            one.program();
            SealKeeper two = new SealKeeper();
            rich(two);
            two.trim(0);
            two.program();
            Twins.dueSame("after fault " + i, one, two);
        }
    }

    private static void ruleRefused() {
        int[][] wrong = {{-1, 0, 0}, {8, 0, 0}, {0, -1, 0}, {0, 8, 0}, {0, 0, -2}, {0, 0, 10}, {1, -8, 0}};
        for (int[] w : wrong) {
            dueUnchanged("rule(" + w[0] + ", " + w[1] + ", " + w[2] + ")", x -> x.rule(w[0], w[1], w[2]), SealKeeper.OUTSIDE);
        }
    }

    private static void bitsRefused() {
        for (int n : new int[] {0, 33, -1, LEAST, MOST}) {
            dueUnchanged("bits(-1, " + n + ")", x -> x.bits(-1, n), SealKeeper.OUTSIDE);
        }
        Consumer<SealKeeper> nearlyFull = x -> {
            rich(x);
            for (int i = 0; i < 12; i++) {
                x.bits(0, 32);
            }
        };
        Twins.dueUnchanged("bits(-1, 8) behind 393", nearlyFull, x -> x.bits(-1, 8), SealKeeper.FULL);
    }

    private static void aboutRefused() {
        for (int what : new int[] {-1, 4, LEAST, MOST}) {
            dueUnchanged("about(" + what + ")", x -> x.about(what), SealKeeper.OUTSIDE);
        }
        Twins.dueUnchanged("about(0) without a program", x -> x.bits(1, 1), x -> x.about(0), SealKeeper.STATE);
    }

    private static void stepRefused() {
        for (int wrong : new int[] {-1, 12, LEAST, MOST}) {
            dueUnchanged("step(" + wrong + ", 0)", x -> x.step(wrong, 0), SealKeeper.OUTSIDE);
            dueUnchanged("step(0, " + wrong + ")", x -> x.step(0, wrong), SealKeeper.OUTSIDE);
        }
        Twins.dueUnchanged("step(0, 0) without a program", x -> x.bits(1, 1), x -> x.step(0, 0), SealKeeper.STATE);
    }

    private static void runRefused() {
        int[][] wrong = {{-1, 9}, {2, 9}, {LEAST, 9}, {MOST, 9}, {1, -1}, {1, 3001}, {1, LEAST}, {1, MOST}};
        for (int[] w : wrong) {
            dueUnchanged("run(" + w[0] + ", " + w[1] + ")", x -> x.run(w[0], w[1]), SealKeeper.OUTSIDE);
        }
        Twins.dueUnchanged("run(0, 9) without a program", x -> x.bits(1, 1), x -> x.run(0, 9), SealKeeper.STATE);
        Consumer<SealKeeper> fresh = x -> Checks.read(x, RICH);
        Twins.dueUnchanged("run(0, 3001) as the first", fresh, x -> x.run(0, 3001), SealKeeper.OUTSIDE);
    }

    private static void ranRefused() {
        for (int what : new int[] {-1, 8, LEAST, MOST}) {
            dueUnchanged("ran(" + what + ")", x -> x.ran(what), SealKeeper.OUTSIDE);
        }
        Consumer<SealKeeper> fresh = x -> Checks.read(x, RICH);
        Twins.dueUnchanged("ran(0) without a run", fresh, x -> x.ran(0), SealKeeper.NONE);
    }

    private static void noteRefused() {
        for (int i : new int[] {-1, 13, 3000, LEAST, MOST}) {
            dueUnchanged("note(" + i + ")", x -> x.note(i), SealKeeper.NONE);
        }
    }

    private static void aheadRefused() {
        for (int method : new int[] {-1, 2, LEAST, MOST}) {
            dueUnchanged("ahead(" + method + ")", x -> x.ahead(method), SealKeeper.OUTSIDE);
        }
        Consumer<SealKeeper> keeping = x -> {
            rich(x);
            x.trim(0);
            Checks.read(x, "on 0{say 1;}on 1{keep 0;}");
            x.run(0, 9);
        };
        Twins.dueUnchanged("ahead(0) with keep", keeping, x -> x.ahead(0), SealKeeper.STATE);
        Consumer<SealKeeper> crowd = x -> {
            Checks.read(x, Texts.crowd(3, 5, 6, 8));
            for (int kind = 0; kind < 8; kind++) {
                x.rule(0, kind, 9);
            }
            x.run(1, 9);
        };
        Twins.dueUnchanged("ahead(0) of a crowd", crowd, x -> x.ahead(0), SealKeeper.MANY);
    }

    private static void walkedRefused() {
        int[][] wrong = {{-1, 0}, {12, 0}, {0, -1}, {0, 2}, {LEAST, 0}, {MOST, 0}, {0, LEAST}, {0, MOST}};
        for (int[] w : wrong) {
            dueUnchanged("walked(" + w[0] + ", " + w[1] + ")", x -> x.walked(w[0], w[1]), SealKeeper.OUTSIDE);
        }
    }

    private static void toldRefused() {
        for (int what : new int[] {-1, 5, LEAST, MOST}) {
            dueUnchanged("told(" + what + ")", x -> x.told(what), SealKeeper.OUTSIDE);
        }
    }

    private static void pairRefused() {
        int[][] wrong = {{-1, 0, 0, 0}, {2, 0, 0, 0}, {0, -1, 0, 0}, {0, 0, -1, 0}, {0, 0, 8, 0}, {0, 0, 0, -1}, {0, 0, 0, 10}};
        for (int[] w : wrong) {
            dueUnchanged("pair(" + w[0] + ", " + w[1] + ", " + w[2] + ", " + w[3] + ")", x -> x.pair(w[0], w[1], w[2], w[3]),
                    SealKeeper.OUTSIDE);
        }
        dueUnchanged("pair(0, 1, 0, 0)", x -> x.pair(0, 1, 0, 0), SealKeeper.NONE);
    }

    private static void countRefused() {
        for (int what : new int[] {-1, 4, LEAST, MOST}) {
            dueUnchanged("count(" + what + ")", x -> x.count(what), SealKeeper.OUTSIDE);
        }
    }

    // ---- which of several comes first

    private static void bitsOutsideAheadOfFull() {
        SealKeeper x = withBits(TAKE_ALL, 400);
        for (int n : new int[] {0, 33, LEAST, MOST}) {
            Checks.due("bits(0, " + n + ")", x.bits(0, n), SealKeeper.OUTSIDE);
        }
        Checks.due("bits(0, 1)", x.bits(0, 1), SealKeeper.FULL);
    }

    private static void aboutOutsideAheadOfState() {
        SealKeeper x = new SealKeeper();
        for (int what : new int[] {-1, 4, LEAST, MOST}) {
            Checks.due("about(" + what + ")", x.about(what), SealKeeper.OUTSIDE);
        }
        Checks.due("about(3)", x.about(3), SealKeeper.STATE);
    }

    private static void stepStateAheadOfOutside() {
        SealKeeper x = new SealKeeper();
        for (int wrong : new int[] {-1, 4, 200, LEAST, MOST}) {
            Checks.due("step(" + wrong + ", 0)", x.step(wrong, 0), SealKeeper.STATE);
            Checks.due("step(0, " + wrong + ")", x.step(0, wrong), SealKeeper.STATE);
        }
        Checks.read(x, "on 1{}");
        Checks.due("step(0, 0) of no steps", x.step(0, 0), SealKeeper.OUTSIDE);
    }

    private static void runStateAheadOfOutside() {
        SealKeeper x = new SealKeeper();
        for (int wrong : new int[] {-1, 3001, LEAST, MOST}) {
            Checks.due("run(" + wrong + ", 0)", x.run(wrong, 0), SealKeeper.STATE);
            Checks.due("run(0, " + wrong + ")", x.run(0, wrong), SealKeeper.STATE);
        }
    }

    private static void ranOutsideAheadOfNone() {
        SealKeeper x = new SealKeeper();
        for (int wrong : new int[] {-1, 8, LEAST, MOST}) {
            Checks.due("ran(" + wrong + ")", x.ran(wrong), SealKeeper.OUTSIDE);
        }
        Checks.due("ran(7)", x.ran(7), SealKeeper.NONE);
    }

    private static void aheadStateOutsideMany() {
        SealKeeper x = new SealKeeper();
        for (int wrong : new int[] {-1, 20, LEAST, MOST}) {
            Checks.due("no program: ahead(" + wrong + ")", x.ahead(wrong), SealKeeper.STATE);
        }
        Checks.read(x, "on 1{}on 1{later 0;}");
        for (int wrong : new int[] {-1, 2, LEAST, MOST}) {
            Checks.due("later: ahead(" + wrong + ")", x.ahead(wrong), SealKeeper.STATE);
        }
        x = Checks.generous(Texts.crowd(3, 5, 6, 8));
        for (int wrong : new int[] {-1, 5, LEAST, MOST}) {
            Checks.due("a crowd: ahead(" + wrong + ")", x.ahead(wrong), SealKeeper.OUTSIDE);
        }
        Checks.due("a crowd: ahead(0)", x.ahead(0), SealKeeper.MANY);
    }

    private static void walkedStateAheadOfOutside() {
        SealKeeper x = Checks.keeper("on 1{say 1;}");
        for (int wrong : new int[] {-1, 2, LEAST, MOST}) {
            Checks.due("walked(" + wrong + ", 0)", x.walked(wrong, 0), SealKeeper.STATE);
            Checks.due("walked(0, " + wrong + ")", x.walked(0, wrong), SealKeeper.STATE);
        }
    }

    private static void toldStateAheadOfOutside() {
        SealKeeper x = Checks.keeper("on 1{say 1;}");
        for (int wrong : new int[] {-1, 5, LEAST, MOST}) {
            Checks.due("told(" + wrong + ")", x.told(wrong), SealKeeper.STATE);
        }
    }

    private static void pairStateAheadOfOutside() {
        SealKeeper x = Checks.keeper("on 1{say 1;}");
        for (int wrong : new int[] {-1, 10, LEAST, MOST}) {
            Checks.due("a method", x.pair(wrong, 0, 0, 0), SealKeeper.STATE);
            Checks.due("k", x.pair(0, wrong, 0, 0), SealKeeper.STATE);
            Checks.due("a kind", x.pair(0, 0, wrong, 0), SealKeeper.STATE);
            Checks.due("a level", x.pair(0, 0, 0, wrong), SealKeeper.STATE);
        }
        x.ahead(0);
        Checks.due("outside, though there is no such pair", x.pair(1, 9, 0, 0), SealKeeper.OUTSIDE);
        Checks.due("outside, though there is no such pair", x.pair(0, 9, 8, 0), SealKeeper.OUTSIDE);
    }
}
