/** Promises 1 (a new object), 2 (feed), 3 (trim), 6 (rule), 7 (bits), 8 (forget), 18 (count). */
public final class TapeAndCountsTest {
    public static void main(String[] args) {
        newObject();
        feedKeepsTheOrderOfBytes();
        feedUpToFull();
        trimKeepsTheFirst();
        trimOutside();
        ruleTellsWhatItWas();
        ruleOutside();
        bitsCountAndOrder();
        bitsOutsideAndFull();
        forgetEmpties();
        countOutside();
        objectsAreApart();
        Checks.end();
    }

    private static void newObject() {
        SealKeeper x = new SealKeeper();
        for (int what = 0; what < 4; what++) {
            Checks.due("new: count(" + what + ")", x.count(what), 0);
            Checks.due("new: about(" + what + ")", x.about(what), SealKeeper.STATE);
            Checks.due("new: step(0, " + what + ")", x.step(0, what), SealKeeper.STATE);
        }
        Checks.due("new: fault()", x.fault(), 0);
        Checks.due("new: run(0, 0)", x.run(0, 0), SealKeeper.STATE);
        Checks.due("new: ahead(0)", x.ahead(0), SealKeeper.STATE);
        Checks.due("new: walked(0, 0)", x.walked(0, 0), SealKeeper.STATE);
        Checks.due("new: told(0)", x.told(0), SealKeeper.STATE);
        Checks.due("new: pair(0, 0, 0, 0)", x.pair(0, 0, 0, 0), SealKeeper.STATE);
        Checks.due("new: note(0)", x.note(0), SealKeeper.NONE);
        Checks.due("new: forget()", x.forget(), 0);
        for (int what = 0; what < 8; what++) {
            Checks.due("new: ran(" + what + ")", x.ran(what), SealKeeper.NONE);
        }
        for (int owner = 0; owner < 8; owner++) {
            for (int kind = 0; kind < 8; kind++) {
                Checks.due("new: a rule", x.rule(owner, kind, -1), -1);
            }
        }
        Checks.due("new: trim(0)", x.trim(0), 0);
        Checks.due("new: trim(1)", x.trim(1), SealKeeper.OUTSIDE);
    }

    private static void feedKeepsTheOrderOfBytes() {
        SealKeeper x = new SealKeeper();
        int spaces = 0x20202020;
        Checks.due("feed", x.feed(0x6F6E2033, 0x7B736179, 0x2031323B, 0x6261636B, 0x3B7D2020), 20);
        Checks.due("program", x.program(), 1);
        Checks.due("step(0, 0)", x.step(0, 0), 9);
        Checks.due("step(0, 2)", x.step(0, 2), 12);
        Checks.due("step(1, 0)", x.step(1, 0), 12);
        Checks.due("feed, the highest bit set", x.feed(0x6F6E2031, 0x7B20FF7D, spaces, spaces, spaces), 20);
        Checks.due("its place", x.program(), -106);
        Checks.due("feed of 0", x.feed(0, 0, 0, 0, 0), 20);
        Checks.due("a byte 0", x.program(), -100);
        Checks.due("fault", x.fault(), 1);
    }

    private static void feedUpToFull() {
        SealKeeper x = new SealKeeper();
        for (int i = 1; i <= 60; i++) {
            Checks.due("feed " + i, x.feed(i, i, i, i, i), 20 * i);
        }
        Checks.due("feed 61", x.feed(1, 2, 3, 4, 5), SealKeeper.FULL);
        Checks.due("count(0)", x.count(0), 1200);
        Checks.due("trim(1181)", x.trim(1181), 1181);
        Checks.due("feed to 1201", x.feed(1, 2, 3, 4, 5), SealKeeper.FULL);
        Checks.due("count(0)", x.count(0), 1181);
        Checks.due("trim(1180)", x.trim(1180), 1180);
        Checks.due("feed to 1200", x.feed(1, 2, 3, 4, 5), 1200);
        x.program();
        Checks.due("the tape is empty then", x.count(0), 0);
        Checks.due("feed", x.feed(1, 2, 3, 4, 5), 20);
    }

    private static void trimKeepsTheFirst() {
        SealKeeper x = new SealKeeper();
        Checks.tape(x, "on 1{}on 2{}zzz");
        Checks.due("count(0)", x.count(0), 15);
        Checks.due("trim(15)", x.trim(15), 15);
        Checks.due("trim(6)", x.trim(6), 6);
        Checks.due("count(0)", x.count(0), 6);
        Checks.tape(x, "on 3{}");
        Checks.due("program", x.program(), 2);
    }

    private static void trimOutside() {
        SealKeeper x = new SealKeeper();
        Checks.tape(x, "on 1{}");
        Checks.due("trim(-1)", x.trim(-1), SealKeeper.OUTSIDE);
        Checks.due("trim(7)", x.trim(7), SealKeeper.OUTSIDE);
        Checks.due("trim(least)", x.trim(Integer.MIN_VALUE), SealKeeper.OUTSIDE);
        Checks.due("trim(most)", x.trim(Integer.MAX_VALUE), SealKeeper.OUTSIDE);
        Checks.due("count(0)", x.count(0), 6);
        Checks.due("program", x.program(), 1);
    }

    private static void ruleTellsWhatItWas() {
        SealKeeper x = new SealKeeper();
        for (int owner = 0; owner < 8; owner++) {
            for (int kind = 0; kind < 8; kind++) {
                Checks.due("rule", x.rule(owner, kind, (owner + kind) % 10), -1);
                Checks.due("count(3)", x.count(3), owner * 8 + kind + 1);
            }
        }
        for (int owner = 0; owner < 8; owner++) {
            for (int kind = 0; kind < 8; kind++) {
                Checks.due("rule again", x.rule(owner, kind, 9), (owner + kind) % 10);
            }
        }
        Checks.due("rule(3, 4, -1)", x.rule(3, 4, -1), 9);
        Checks.due("count(3)", x.count(3), 63);
        Checks.due("rule(3, 4, 0)", x.rule(3, 4, 0), -1);
        Checks.due("a level of 0 is a rule", x.count(3), 64);
    }

    private static void ruleOutside() {
        SealKeeper x = new SealKeeper();
        int[][] wrong = {{-1, 0, 0}, {8, 0, 0}, {0, -1, 0}, {0, 8, 0}, {0, 0, -2}, {0, 0, 10},
            {Integer.MAX_VALUE, 0, 0}, {0, Integer.MIN_VALUE, 0}, {0, 0, Integer.MAX_VALUE}, {0, 0, Integer.MIN_VALUE}};
        for (int[] w : wrong) {
            Checks.due("rule outside", x.rule(w[0], w[1], w[2]), SealKeeper.OUTSIDE);
        }
        Checks.due("count(3)", x.count(3), 0);
    }

    private static void bitsCountAndOrder() {
        SealKeeper x = Checks.keeper("on 0{loop 6{either{say 1;}or{say 0;}}}");
        Checks.due("bits(13, 4)", x.bits(13, 4), 4);
        Checks.due("bits(-2, 1)", x.bits(-2, 1), 5);
        x.run(0, 100);
        Checks.dueNotes(x, "13 and 0", 1, 0, 1, 1, 0, 0);
        Checks.due("the bits stay", x.count(1), 5);
        x.run(0, 100);
        Checks.dueNotes(x, "from the first one on", 1, 0, 1, 1, 0, 0);
        Checks.due("forget()", x.forget(), 5);
        Checks.due("bits of 32", x.bits(0x80000001, 32), 32);
        x.run(0, 100);
        Checks.dueNotes(x, "the lowest first", 1, 0, 0, 0, 0, 0);
    }

    private static void bitsOutsideAndFull() {
        SealKeeper x = new SealKeeper();
        for (int n : new int[] {0, -1, 33, Integer.MAX_VALUE, Integer.MIN_VALUE}) {
            Checks.due("bits(1, " + n + ")", x.bits(1, n), SealKeeper.OUTSIDE);
        }
        for (int i = 1; i <= 12; i++) {
            Checks.due("bits", x.bits(-1, 32), 32 * i);
        }
        Checks.due("bits to 401", x.bits(-1, 17), SealKeeper.FULL);
        Checks.due("count(1)", x.count(1), 384);
        Checks.due("bits to 400", x.bits(-1, 16), 400);
        Checks.due("bits to 401", x.bits(-1, 1), SealKeeper.FULL);
        Checks.due("outside comes ahead of full", x.bits(-1, 33), SealKeeper.OUTSIDE);
        Checks.due("count(1)", x.count(1), 400);
    }

    private static void forgetEmpties() {
        SealKeeper x = Checks.keeper("on 0{either{say 1;}or{say 2;}}");
        x.bits(1, 3);
        Checks.due("forget()", x.forget(), 3);
        Checks.due("count(1)", x.count(1), 0);
        Checks.due("forget() again", x.forget(), 0);
        x.run(0, 9);
        Checks.dueNotes(x, "no bit", 2);
        Checks.due("ran(5)", x.ran(5), 0);
    }

    private static void countOutside() {
        SealKeeper x = new SealKeeper();
        for (int what : new int[] {-1, 4, 5, Integer.MAX_VALUE, Integer.MIN_VALUE}) {
            Checks.due("count(" + what + ")", x.count(what), SealKeeper.OUTSIDE);
        }
    }

    private static void objectsAreApart() {
        SealKeeper one = Checks.keeper("on 0{say 1;}");
        SealKeeper two = Checks.keeper("on 0{}on 1{}");
        one.rule(0, 0, 5);
        one.bits(1, 1);
        one.run(0, 9);
        Checks.due("two: about(0)", two.about(0), 2);
        Checks.due("one: about(0)", one.about(0), 1);
        for (int what = 0; what < 4; what++) {
            Checks.due("two: count(" + what + ")", two.count(what), 0);
        }
    }
}
