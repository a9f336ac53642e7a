/** Promises 14 (ahead), 15 (walked), 16 (told), 17 (pair). */
public final class AheadTest {
    public static void main(String[] args) {
        asks();
        calls();
        recursionThatCanNotEnd();
        recursionThatCanEnd();
        lendsAndCuts();
        tries();
        loops();
        ifs();
        eithers();
        backs();
        abilitiesOfLaterPairsReachEarlierOnes();
        pairsInTheirOrder();
        pairsUpToTheirEdge();
        callsInTheTwelfthBlock();
        whatIsKept();
        refused();
        Checks.end();
    }

    /** What told(0) .. told(4) answer. */
    private static void dueTold(SealKeeper x, String what, int... told) {
        for (int i = 0; i < told.length; i++) {
            Checks.due(what + ": told(" + i + ")", x.told(i), told[i]);
        }
    }

    /** A 1 for each STEP that is walked; a 2 if it is OPEN, too. */
    private static void dueWalked(SealKeeper x, String what, String marks) {
        for (int s = 0; s < marks.length(); s++) {
            Checks.due(what + ": walked(" + s + ", 0)", x.walked(s, 0), marks.charAt(s) == '0' ? 0 : 1);
            Checks.due(what + ": walked(" + s + ", 1)", x.walked(s, 1), marks.charAt(s) == '2' ? 1 : 0);
        }
        Checks.due(what + ": no step more", x.walked(marks.length(), 0), SealKeeper.OUTSIDE);
    }

    private static void asks() {
        SealKeeper x = Checks.keeper("on 4 { say 1; ask 2 3; say 2; ask 2 4; say 3; }");
        x.rule(4, 2, 3);
        Checks.due("ahead(0)", x.ahead(0), 1);
        dueTold(x, "ask", 0, 1, 4, 1, 1);
        dueWalked(x, "ask", "11120");
        Checks.due("pair", x.pair(0, 0, 2, 3), SealKeeper.NONE);
        Checks.due("pair", x.pair(0, 0, 2, 4), 4);
        x.rule(4, 2, 4);
        Checks.due("ahead(0) anew", x.ahead(0), 1);
        dueTold(x, "granted", 1, 0, 5, 0, 1);
        Checks.due("an empty method", Checks.keeper("on 1 { }").ahead(0), 1);
    }

    private static void calls() {
        SealKeeper x = Checks.generous("on 0 { call 1; call 2; say 1; } on 1 { ask 3 3; } on 2 { ask 4 4; back; } on 3 { }");
        Checks.due("ahead(0)", x.ahead(0), 3);
        dueTold(x, "calls", 1, 0, 6, 0, 3);
        x.rule(1, 4, 0);
        Checks.due("a caller that is gone does not judge", x.ahead(0), 3);
        dueTold(x, "calls", 1, 0, 6, 0, 3);
        x.rule(0, 4, 0);
        Checks.due("a caller that is open does", x.ahead(0), 3);
        dueTold(x, "calls", 0, 1, 4, 1, 3);
        dueWalked(x, "calls", "110120");
        Checks.due("by whom", x.pair(2, 0, 4, 4), 0);
        Checks.due("a method that did not come", x.pair(3, 0, 4, 4), SealKeeper.NONE);
        Checks.due("ahead(2)", x.ahead(2), 1);
        dueTold(x, "by itself", 1, 0, 2, 0, 1);
        dueWalked(x, "by itself", "000011");
    }

    private static void recursionThatCanNotEnd() {
        SealKeeper x = Checks.generous("on 0 { say 1; call 0; say 2; } on 1 { call 2; say 3; } on 2 { call 1; }");
        Checks.due("ahead(0)", x.ahead(0), 1);
        dueTold(x, "for ever", 0, 0, 2, 0, 1);
        dueWalked(x, "for ever", "110000");
        Checks.due("ahead(1)", x.ahead(1), 2);
        dueTold(x, "two of them", 0, 0, 2, 0, 2);
        x.rule(1, 5, 3);
        Checks.due("other rights below", x.ahead(2), 3);
        Checks.due("with 1 below", x.pair(2, 1, 5, 4), 1);
        Checks.due("without", x.pair(2, 0, 5, 4), SealKeeper.NONE);
    }

    private static void recursionThatCanEnd() {
        SealKeeper x = Checks.generous("on 0 { either { call 0; say 1; } or { ask 1 1; } } on 1 { cut 1 { call 0; } }");
        Checks.due("ahead(0)", x.ahead(0), 1);
        dueTold(x, "it ends", 1, 0, 4, 0, 1);
        Checks.due("ahead(1)", x.ahead(1), 2);
        dueTold(x, "it fails", 0, 1, 5, 1, 2);
        dueWalked(x, "it fails", "110211");
    }

    private static void lendsAndCuts() {
        String text = "on 0 { call 1; } on 1 { lend 2 5 { ask 2 5; ask 2 6; } }";
        SealKeeper x = Checks.generous(text);
        x.rule(0, 2, 2);
        Checks.due("ahead(0)", x.ahead(0), 2);
        dueWalked(x, "lent up to 5", "1112");
        dueTold(x, "lent up to 5", 0, 1, 4, 1, 2);
        x.rule(1, 2, 4);
        x.ahead(0);
        dueWalked(x, "who lends lacks it", "1120");
        x = Checks.generous("on 0 { cut 3 { call 1; } call 1; } on 1 { say 1; } ");
        Checks.due("ahead(0)", x.ahead(0), 3);
        Checks.due("not cut", x.pair(1, 0, 3, 0), SealKeeper.NONE);
        Checks.due("cut", x.pair(1, 1, 3, 0), 0);
        Checks.due("cut", x.pair(1, 1, 3, 9), 0);
        Checks.due("another kind", x.pair(1, 1, 4, 9), SealKeeper.NONE);
        Checks.due("no third", x.pair(1, 2, 3, 0), SealKeeper.NONE);
        x = Checks.generous("on 2 { cut 3 { lend 3 4 { call 1; } } } on 1 { }");
        x.rule(2, 3, 1);
        x.ahead(0);
        Checks.due("lent and had", x.pair(1, 0, 3, 1), SealKeeper.NONE);
        Checks.due("lent and lacked", x.pair(1, 0, 3, 4), 2);
        Checks.due("not lent", x.pair(1, 0, 3, 5), 2);
        x = Checks.generous("on 2 { lend 3 4 { cut 3 { lend 3 0 { ask 3 0; ask 3 1; } } } }");
        x.ahead(0);
        dueWalked(x, "within one another", "11112");
    }

    private static void tries() {
        SealKeeper x = Checks.keeper("on 0 { try { ask 0 0; say 1; } else { say 2; } say 3; }");
        x.ahead(0);
        dueTold(x, "a try takes it", 1, 0, 4, 1, 1);
        dueWalked(x, "a try takes it", "12011");
        x.rule(0, 0, 0);
        x.ahead(0);
        dueTold(x, "nothing to take", 1, 0, 4, 0, 1);
        dueWalked(x, "nothing to take", "11101");
        x = Checks.keeper("on 0 { try { ask 0 0; } else { ask 0 1; } say 3; }");
        x.ahead(0);
        dueTold(x, "the second one fails", 0, 1, 3, 2, 1);
        x = Checks.keeper("on 0 { try { either { back; } or { ask 0 0; } } else { ask 0 1; } say 3; }");
        x.ahead(0);
        dueTold(x, "back in the first, a failure in the second", 1, 1, 5, 2, 1);
        dueWalked(x, "back in the first, a failure in the second", "111220");
        x = Checks.keeper("on 0 { try { call 1; } else { back; } say 1; } on 1 { ask 1 1; }");
        Checks.due("ahead(0)", x.ahead(0), 2);
        dueTold(x, "a failure in what it calls", 1, 0, 4, 1, 2);
        dueWalked(x, "a failure in what it calls", "11102");
    }

    private static void loops() {
        SealKeeper x = Checks.keeper("on 0 { loop 0 { ask 0 0; } say 1; loop 2 { either { back; } or { say 2; } } loop 1 { ask 0 0; } say 3; }");
        x.ahead(0);
        dueWalked(x, "loops", "1011111120");
        dueTold(x, "loops", 1, 1, 8, 1, 1);
        x = Checks.keeper("on 0 { loop 9 { } say 1; }");
        x.ahead(0);
        dueTold(x, "an empty block", 1, 0, 2, 0, 1);
    }

    private static void ifs() {
        SealKeeper x = Checks.keeper("on 0 { if 1 1 { say 1; } else { ask 2 2; } say 2; }");
        x.ahead(0);
        dueWalked(x, "the second block", "1020");
        dueTold(x, "the second block", 0, 1, 2, 1, 1);
        x.rule(0, 1, 1);
        x.ahead(0);
        dueWalked(x, "the first block", "1101");
        dueTold(x, "the first block", 1, 0, 3, 0, 1);
    }

    private static void eithers() {
        SealKeeper x = Checks.keeper("on 0 { either { ask 1 1; } or { back; } say 1; }");
        x.bits(1, 1);
        x.ahead(0);
        dueWalked(x, "whatever the bits", "1210");
        dueTold(x, "whatever the bits", 1, 1, 3, 1, 1);
        x = Checks.keeper("on 0 { either { ask 1 1; } or { } say 1; }");
        x.ahead(0);
        dueTold(x, "one of them ends", 1, 1, 3, 1, 1);
    }

    private static void backs() {
        SealKeeper x = Checks.keeper("on 0 { call 1; say 1; } on 1 { cut 1 { back; say 2; } say 3; }");
        x.ahead(0);
        dueWalked(x, "back", "111100");
        dueTold(x, "back", 1, 0, 4, 0, 2);
    }

    private static void abilitiesOfLaterPairsReachEarlierOnes() {
        StringBuilder chain = new StringBuilder();
        for (int m = 0; m < 19; m++) {
            chain.append("on 0{call ").append(m + 1).append(";call ").append((m + 7) % 20).append(";}");
        }
        SealKeeper x = Checks.generous(chain + "on 0{}");
        Checks.due("ahead(0)", x.ahead(0), 20);
        dueTold(x, "each waits for another one", 0, 0, 20, 0, 20);
        StringBuilder straight = new StringBuilder();
        for (int m = 0; m < 19; m++) {
            straight.append("on 0{call ").append(m + 1).append(";say 1;}");
        }
        x = Checks.generous(straight + "on 0{ask 0 0;}");
        Checks.due("ahead(0)", x.ahead(0), 20);
        dueTold(x, "all of it", 1, 0, 39, 0, 20);
        x.rule(0, 0, -1);
        Checks.due("ahead(0)", x.ahead(0), 20);
        dueTold(x, "all fail", 0, 1, 20, 1, 20);
    }

    private static void pairsInTheirOrder() {
        SealKeeper x = Checks.generous("on 0 { cut 1 { call 2; } call 1; cut 0 { call 2; } call 2; } on 1 { cut 1 { call 2; }"
                + " cut 0 { call 2; } lend 0 9 { cut 7 { call 2; } } } on 2 { }");
        Checks.due("ahead(0)", x.ahead(0), 8);
        int[][] due = {{-1, -1, -1}, {-1, -1, 1}, {-1, 0, -1}, {-1, 1, -1}, {0, -1, -1}, {1, -1, -1}};
        for (int k = 0; k < due.length; k++) {
            Checks.due("pair(2, " + k + ", 0, 5)", x.pair(2, k, 0, 5), due[k][0]);
            Checks.due("pair(2, " + k + ", 1, 5)", x.pair(2, k, 1, 5), due[k][1]);
            Checks.due("pair(2, " + k + ", 7, 5)", x.pair(2, k, 7, 5), due[k][2]);
        }
        Checks.due("no seventh", x.pair(2, 6, 0, 5), SealKeeper.NONE);
        Checks.due("far behind", x.pair(2, Integer.MAX_VALUE, 0, 5), SealKeeper.NONE);
        String thrice = "cut 1 { call 1; } cut 2 { call 1; } call 1; ";
        x = Checks.generous("on 0 { " + thrice.repeat(3) + "} on 1 { }");
        x.rule(1, 0, 3);
        Checks.due("the same pairs come again", x.ahead(0), 4);
        Checks.due("the first", x.pair(1, 0, 2, 0), SealKeeper.NONE);
        Checks.due("the second", x.pair(1, 1, 2, 0), 0);
        Checks.due("the third", x.pair(1, 2, 1, 0), 0);
        x = Checks.generous("on 0 { lend 1 4 { call 3; } call 3; } on 1 { call 0; } on 2 { call 1; } on 3 { }");
        x.rule(1, 1, 2);
        x.rule(2, 1, 6);
        Checks.due("ahead(2)", x.ahead(2), 5);
        int[] first = {-1, -1, -1, -1, -1, 1, 1, 1, 1, 1};
        int[] second = {-1, -1, -1, 1, 1, 1, 1, 1, 1, 1};
        for (int level = 0; level < 10; level++) {
            Checks.due("first, level " + level, x.pair(3, 0, 1, level), first[level]);
            Checks.due("second, level " + level, x.pair(3, 1, 1, level), second[level]);
        }
        Checks.due("of the root", x.pair(2, 0, 1, 7), 2);
    }

    private static void pairsUpToTheirEdge() {
        SealKeeper x = Checks.generous(Texts.crowd(3, 5, 6));
        Checks.due("256 + 32 + 8 + 4", x.ahead(0), 300);
        dueTold(x, "300", 1, 0, x.about(1), 0, 4);
        Checks.due("the first", x.pair(0, 0, 0, 0), SealKeeper.NONE);
        Checks.due("the first", x.pair(0, 0, 7, 9), SealKeeper.NONE);
        for (int kind = 0; kind < 8; kind++) {
            Checks.due("the 256th", x.pair(0, 255, kind, 9), 0);
            Checks.due("the 129th", x.pair(0, 128, kind, 0), kind == 0 ? 0 : SealKeeper.NONE);
            Checks.due("the last of all", x.pair(3, 3, kind, 3), kind < 6 ? SealKeeper.NONE : 0);
        }
        Checks.due("no 257th", x.pair(0, 256, 0, 0), SealKeeper.NONE);
        x = Checks.generous(Texts.crowd(3, 5, 6, 8));
        Checks.due("301", x.ahead(0), SealKeeper.MANY);
        Checks.due("nothing is kept", x.told(0), SealKeeper.STATE);
        Checks.due("ahead(1)", x.ahead(1), 1);
        Checks.due("that is kept", x.told(0), 1);
        Checks.due("many again", x.ahead(0), SealKeeper.MANY);
        Checks.due("nothing is kept", x.told(0), SealKeeper.STATE);
        Checks.due("nothing is kept", x.walked(0, 0), SealKeeper.STATE);
        Checks.due("nothing is kept", x.pair(0, 0, 0, 0), SealKeeper.STATE);
        for (int kind = 0; kind < 8; kind++) {
            x.rule(0, kind, -1);
        }
        Checks.due("with other rules", x.ahead(0), 5);
    }

    private static void callsInTheTwelfthBlock() {
        SealKeeper x = Checks.generous("on 0 { " + "cut 5 {".repeat(6) + "loop 1 {".repeat(4) + "cut 6 { call 1; call 1; ask 4 4; ask 6 6; "
                + "}".repeat(11) + " } on 1 { if 6 6 { say 1; } else { say 2; } call 2; } on 2 { ask 4 4; }");
        x.rule(1, 3, 4);
        Checks.due("ahead(0)", x.ahead(0), 3);
        dueTold(x, "the twelfth block", 0, 1, 19, 1, 3);
        dueWalked(x, "the twelfth block", "11111111111" + "1112" + "1011" + "1");
        Checks.due("by a cut", x.pair(1, 0, 6, 0), 0);
        Checks.due("by a cut", x.pair(1, 0, 5, 0), 0);
        Checks.due("granted", x.pair(1, 0, 4, 9), SealKeeper.NONE);
        Checks.due("by itself", x.pair(1, 0, 3, 5), 1);
        Checks.due("by who is below", x.pair(2, 0, 3, 5), 1);
    }

    private static void whatIsKept() {
        SealKeeper x = Checks.generous("on 0 { ask 1 1; } on 0 { say 1; }");
        x.ahead(0);
        x.rule(0, 1, -1);
        x.bits(1, 1);
        x.run(0, 9);
        Checks.due("outside changes nothing", x.ahead(2), SealKeeper.OUTSIDE);
        Checks.due("a faulty program", Checks.read(x, "on 9"), -103);
        dueTold(x, "as it was", 1, 0, 1, 0, 1);
        dueWalked(x, "as it was", "10");
        Checks.due("as it was", x.pair(0, 0, 1, 1), SealKeeper.NONE);
        Checks.due("ahead(1)", x.ahead(1), 1);
        dueWalked(x, "of the next one", "01");
        Checks.due("a method that came before", x.pair(0, 0, 1, 1), SealKeeper.NONE);
        Checks.due("one that comes now", x.pair(1, 0, 1, 1), 0);
        Checks.due("the same text", Checks.read(x, "on 0 { ask 1 1; }"), 1);
        dueTold(x, "a new program", SealKeeper.STATE, SealKeeper.STATE);
    }

    private static void refused() {
        int[] odd = {-1, Integer.MIN_VALUE, Integer.MAX_VALUE};
        SealKeeper x = new SealKeeper();
        Checks.due("no program", x.ahead(-1), SealKeeper.STATE);
        for (String step : new String[] {"keep 0;", "under 0 { }", "later 0;"}) {
            x = Checks.keeper("on 1 { } on 1 { loop 0 { " + step + " } }");
            Checks.due(step, x.ahead(0), SealKeeper.STATE);
            Checks.due("state comes ahead of outside", x.ahead(2), SealKeeper.STATE);
        }
        x = Checks.keeper("on 1 { say 1; }");
        for (int wrong : odd) {
            Checks.due("nothing is kept", x.walked(wrong, wrong), SealKeeper.STATE);
            Checks.due("nothing is kept", x.told(wrong), SealKeeper.STATE);
            Checks.due("nothing is kept", x.pair(wrong, wrong, wrong, wrong), SealKeeper.STATE);
            Checks.due("ahead outside", x.ahead(wrong), SealKeeper.OUTSIDE);
        }
        Checks.due("ahead(1)", x.ahead(1), SealKeeper.OUTSIDE);
        x.ahead(0);
        for (int wrong : odd) {
            Checks.due("walked", x.walked(wrong, 0), SealKeeper.OUTSIDE);
            Checks.due("walked", x.walked(0, wrong), SealKeeper.OUTSIDE);
            Checks.due("told", x.told(wrong), SealKeeper.OUTSIDE);
            Checks.due("pair", x.pair(wrong, 0, 0, 0), SealKeeper.OUTSIDE);
            Checks.due("pair", x.pair(0, 0, wrong, 0), SealKeeper.OUTSIDE);
            Checks.due("pair", x.pair(0, 0, 0, wrong), SealKeeper.OUTSIDE);
        }
        Checks.due("walked(1, 0)", x.walked(1, 0), SealKeeper.OUTSIDE);
        Checks.due("walked(0, 2)", x.walked(0, 2), SealKeeper.OUTSIDE);
        Checks.due("told(5)", x.told(5), SealKeeper.OUTSIDE);
        Checks.due("pair(1, 0, 0, 0)", x.pair(1, 0, 0, 0), SealKeeper.OUTSIDE);
        Checks.due("pair(0, -1, 0, 0)", x.pair(0, -1, 0, 0), SealKeeper.OUTSIDE);
        Checks.due("pair(0, 0, 8, 0)", x.pair(0, 0, 8, 0), SealKeeper.OUTSIDE);
        Checks.due("pair(0, 0, 0, 10)", x.pair(0, 0, 0, 10), SealKeeper.OUTSIDE);
    }
}
