/** Promises 11 (run), 12 (ran), 13 (note): how RIGHTS are judged, and RUNS with their JOBS, TURNS, ends and NOTES. */
public final class RunsTest {
    public static void main(String[] args) {
        allOnTheStackJudge();
        lending();
        lendingOfLessOrOther();
        cutting();
        keepingAndUnder();
        underIsTheOwnersToo();
        underKeepsWhatItBeganWith();
        underOfAnEmptySlot();
        laterHasABase();
        laterInItsOrder();
        slotsLastForARun();
        tryTakesFailures();
        tryEndsWhatWasOpen();
        theSecondBlockFails();
        loops();
        backEndsTheMethod();
        ifJudges();
        bitsAreTaken();
        spent();
        deep();
        full();
        rulesOfNow();
        theMostNotes();
        theMostBlocks();
        manyRuns();
        refused();
        Checks.end();
    }

    private static void dueRun(SealKeeper x, String what, int method, int turns, int end) {
        Checks.due(what + ": run(" + method + ", " + turns + ")", x.run(method, turns), end);
    }

    private static void allOnTheStackJudge() {
        SealKeeper x = Checks.generous("on 1 { call 1; } on 2 { call 2; } on 3 { ask 4 5; say 1; }");
        dueRun(x, "all have it", 0, 99, 0);
        Checks.dueNotes(x, "all have it", 1);
        x.rule(2, 4, 5);
        dueRun(x, "just enough", 0, 99, 0);
        Checks.dueNotes(x, "just enough", 1);
        x.rule(1, 4, 4);
        dueRun(x, "the lowest lacks it", 0, 99, 0);
        Checks.dueNotes(x, "the lowest lacks it", 12002);
        x.rule(2, 4, 0);
        dueRun(x, "the latest is told", 0, 99, 0);
        Checks.dueNotes(x, "the latest is told", 13002);
        x.rule(3, 4, -1);
        dueRun(x, "the latest is told", 0, 99, 0);
        Checks.dueNotes(x, "the latest is told", 14002);
        x.rule(3, 4, 9);
        x.rule(3, 5, -1);
        dueRun(x, "without the others", 2, 99, 0);
        Checks.dueNotes(x, "without the others", 1);
    }

    private static void lending() {
        SealKeeper x = Checks.generous("on 0 { call 1; } on 1 { lend 2 6 { call 2; } call 2; } on 2 { ask 2 6; say 7; }");
        x.rule(0, 2, -1);
        dueRun(x, "lent", 0, 99, 0);
        Checks.dueNotes(x, "lent within its block alone", 7, 11004);
        x.rule(1, 2, 5);
        dueRun(x, "who lends has to have it", 0, 99, 0);
        Checks.dueNotes(x, "who lends has to have it", 12004);
        x.rule(2, 2, 5);
        dueRun(x, "who was lent it, too", 0, 99, 0);
        Checks.dueNotes(x, "who was lent it, too", 13004);
        Checks.dueRan(x, "who was lent it, too", 4, 1, 1, 1, 3, 0, 1, 1);
    }

    private static void lendingOfLessOrOther() {
        String low = "on 0 { call 1; } on 1 { lend 2 5 { ask 2 6; } }";
        SealKeeper x = Checks.generous(low);
        x.rule(0, 2, -1);
        dueRun(x, "a level above", 0, 99, 0);
        Checks.dueNotes(x, "a level above", 11002);
        x = Checks.generous(low.replace("ask 2 6", "ask 2 5"));
        x.rule(0, 2, -1);
        dueRun(x, "the same level", 0, 99, 0);
        Checks.dueNotes(x, "the same level");
        x = Checks.generous(low.replace("ask 2 6", "ask 3 5"));
        x.rule(0, 3, -1);
        dueRun(x, "another kind", 0, 99, 0);
        Checks.dueNotes(x, "another kind", 11002);
        x = Checks.generous("on 0 { lend 2 5 { lend 2 3 { ask 2 4; say 1; cut 2 { ask 2 0; } } } }");
        dueRun(x, "the lower one is looked at, too", 0, 99, 0);
        Checks.dueNotes(x, "the lower one is looked at, too", 1, 11005);
    }

    private static void cutting() {
        SealKeeper x = Checks.generous("on 5 { cut 1 { ask 0 9; call 1; } } on 6 { say 3; ask 1 0; }");
        dueRun(x, "cut", 0, 99, 0);
        Checks.dueNotes(x, "its owner is told", 3, 16004);
        x = Checks.generous("on 5 { cut 1 { lend 1 3 { ask 1 3; say 1; } ask 1 0; } }");
        dueRun(x, "lent anew", 0, 99, 0);
        Checks.dueNotes(x, "lent anew", 1, 16004);
        x = Checks.generous("on 5 { cut 1 { } ask 1 9; say 2; }");
        dueRun(x, "behind its block", 0, 99, 0);
        Checks.dueNotes(x, "behind its block", 2);
    }

    private static void keepingAndUnder() {
        SealKeeper x = Checks.generous("on 0 { call 1; call 2; } on 1 { keep 0; } on 2 { ask 3 1; under 0 { ask 3 1; } }");
        dueRun(x, "all have it", 0, 99, 0);
        Checks.dueNotes(x, "all have it");
        x.rule(1, 3, 0);
        dueRun(x, "who has kept is asked, too", 0, 99, 0);
        Checks.dueNotes(x, "who has kept is asked, too", 12005);
        x = Checks.generous("on 0 { lend 3 9 { keep 1; } call 1; } on 1 { under 1 { call 2; } } on 2 { ask 3 2; say 4; }");
        x.rule(1, 3, 2);
        dueRun(x, "with what was lent then", 0, 99, 0);
        Checks.dueNotes(x, "with what was lent then", 4);
        x = Checks.generous("on 0 { keep 2; cut 3 { under 2 { ask 3 9; say 1; } under 2 { } ask 3 0; } }");
        dueRun(x, "instead of what is below", 0, 99, 0);
        Checks.dueNotes(x, "instead of what is below", 1, 11006);
    }

    private static void underIsTheOwnersToo() {
        SealKeeper x = Checks.generous("on 0 { keep 3; call 1; } on 1 { under 3 { call 2; } } on 2 { ask 6 6; say 1; }");
        x.rule(1, 6, 5);
        dueRun(x, "its owner lacks it", 0, 99, 0);
        Checks.dueNotes(x, "its owner lacks it", 12004);
        x = Checks.generous("on 4 { cut 6 { keep 3; } call 1; } on 1 { under 3 { ask 6 0; } }");
        x.rule(1, 6, -1);
        dueRun(x, "its owner first", 0, 99, 0);
        Checks.dueNotes(x, "its owner first", 12004);
        x.rule(1, 6, 0);
        dueRun(x, "then what was kept", 0, 99, 0);
        Checks.dueNotes(x, "then what was kept", 15004);
    }

    private static void underKeepsWhatItBeganWith() {
        SealKeeper x = Checks.generous("on 0 { keep 0; under 0 { keep 0; ask 1 1; under 0 { cut 1 { keep 0; } ask 1 1; say 1; } }"
                + " under 0 { ask 1 1; } }");
        dueRun(x, "keep within under", 0, 99, 0);
        Checks.dueNotes(x, "keep within under", 1, 11010);
    }

    private static void underOfAnEmptySlot() {
        SealKeeper x = Checks.generous("on 0 { keep 0; try { under 1 { say 1; } } else { say 2; } under 3 { } say 3; }");
        dueRun(x, "an empty slot", 0, 99, 0);
        Checks.dueNotes(x, "an empty slot", 10002, 2, 10005);
        Checks.dueRan(x, "an empty slot", 5, 1, 2, 1, 1, 0, 3, 0);
    }

    private static void laterHasABase() {
        SealKeeper x = Checks.generous("on 1 { cut 2 { later 1; } later 1; say 9; } on 2 { say 1; ask 2 2; say 2; }");
        dueRun(x, "later", 0, 99, 0);
        Checks.dueNotes(x, "behind the job that put it off", 9, 1, 12005, 1, 2);
        Checks.dueRan(x, "later", 9, 3, 1, 1, 1, 0, 5, 2);
        x = Checks.generous("on 1 { later 1; } on 2 { call 2; } on 3 { keep 0; lend 4 4 { later 3; } ask 4 4; }"
                + "on 4 { ask 4 4; say 8; ask 4 5; }");
        x.rule(1, 4, 0);
        dueRun(x, "a base on a base", 0, 99, 0);
        Checks.dueNotes(x, "a base on a base", 12005, 8, 12008);
        Checks.dueRan(x, "a base on a base", 9, 3, 2, 2, 2, 0, 3, 3);
    }

    private static void laterInItsOrder() {
        SealKeeper x = Checks.generous("on 0 { later 1; later 2; say 0; } on 0 { say 1; later 3; } on 0 { say 2; } on 0 { say 3; }");
        dueRun(x, "in their order", 0, 99, 0);
        Checks.dueNotes(x, "in their order", 0, 1, 2, 3);
        Checks.due("ran(1)", x.ran(1), 4);
        x = Checks.generous("on 0 { later 1; ask 0 0; } on 0 { say 1; }");
        x.rule(0, 0, -1);
        dueRun(x, "a failure ends its job alone", 0, 99, 0);
        Checks.dueNotes(x, "a failure ends its job alone", 11001, 1);
        Checks.due("ran(3)", x.ran(3), 1);
    }

    private static void slotsLastForARun() {
        SealKeeper x = Checks.generous("on 0 { later 1; keep 2; } on 0 { under 2 { say 1; } }");
        dueRun(x, "in a later job", 0, 99, 0);
        Checks.dueNotes(x, "in a later job", 1);
        dueRun(x, "in the next run", 1, 99, 0);
        Checks.dueNotes(x, "in the next run", 10002);
    }

    private static void tryTakesFailures() {
        SealKeeper x = Checks.keeper("on 3 { try { say 1; call 1; say 2; } else { say 3; } say 4; try { say 5; } else { say 6; } }"
                + " on 4 { lend 0 0 { loop 5 { ask 0 0; } } say 7; }");
        dueRun(x, "a try", 0, 99, 0);
        Checks.dueNotes(x, "a try", 1, 15011, 3, 4, 5);
        Checks.dueRan(x, "a try", 10, 1, 1, 0, 2, 0, 5, 1);
        dueRun(x, "without it", 1, 99, 0);
        Checks.dueNotes(x, "without it", 15011);
        Checks.dueRan(x, "without it", 3, 1, 1, 1, 1, 0, 1, 1);
    }

    private static void tryEndsWhatWasOpen() {
        SealKeeper x = Checks.generous("on 0 { try { cut 1 { cut 2 { call 1; } } } else { ask 1 9; ask 2 9; say 1; } ask 1 9; say 2; }"
                + " on 0 { ask 2 0; }");
        dueRun(x, "cuts are ended", 0, 99, 0);
        Checks.dueNotes(x, "cuts are ended", 11009, 1, 2);
        String descent = "on 0 { loop 30 { try { call 1; } else { } } call 2; } on 0 { under 0 { } }";
        StringBuilder chain = new StringBuilder(descent);
        for (int m = 2; m < 20; m++) {
            chain.append("on 0 {").append(m < 19 ? "call " + (m + 1) + ";" : "").append("}");
        }
        x = Checks.generous(chain.toString());
        dueRun(x, "methods are ended", 0, 999, 0);
        Checks.due("ran(2)", x.ran(2), 30);
        Checks.due("ran(4)", x.ran(4), 19);
    }

    private static void theSecondBlockFails() {
        SealKeeper x = Checks.keeper("on 0 { try { try { ask 0 0; } else { say 1; ask 1 1; say 2; } say 3; } else { say 4; } }");
        dueRun(x, "an outer try", 0, 99, 0);
        Checks.dueNotes(x, "an outer try", 11002, 1, 11004, 4);
        x = Checks.keeper("on 0 { try { ask 0 0; } else { ask 1 1; } say 1; }");
        dueRun(x, "no outer try", 0, 99, 0);
        Checks.dueNotes(x, "no outer try", 11001, 11002);
        Checks.dueRan(x, "no outer try", 3, 1, 2, 1, 1, 0, 2, 2);
    }

    private static void loops() {
        SealKeeper x = Checks.keeper("on 0 { loop 3 { say 1; loop 2 { say 2; } } loop 0 { say 3; } loop 99 { } loop 1 { say 4; } }");
        dueRun(x, "loops", 0, 99, 0);
        Checks.dueNotes(x, "loops", 1, 2, 2, 1, 2, 2, 1, 2, 2, 4);
        Checks.due("ran(0)", x.ran(0), 17);
        x = Checks.keeper("on 0 { loop 99 { loop 99 { loop 99 { } } } }");
        dueRun(x, "empty ones", 0, 3000, 1);
        Checks.due("ran(0)", x.ran(0), 3000);
    }

    private static void backEndsTheMethod() {
        SealKeeper x = Checks.generous("on 0 { cut 1 { call 1; say 1; } ask 1 1; say 2; back; say 3; }"
                + " on 0 { loop 9 { try { cut 2 { lend 1 9 { ask 1 9; back; } } } else { } say 4; } say 5; }");
        dueRun(x, "back", 0, 99, 0);
        Checks.dueNotes(x, "back", 1, 2);
        Checks.dueRan(x, "back", 12, 1, 0, 0, 2, 0, 2, 2);
        x = Checks.generous("on 0 { try { call 1; ask 7 7; } else { say 1; } } on 0 { back; }");
        x.rule(0, 7, -1);
        dueRun(x, "the caller's try stays", 0, 99, 0);
        Checks.dueNotes(x, "the caller's try stays", 11002, 1);
        x = Checks.generous("on 0 { later 1; back; say 1; } on 0 { say 2; }");
        dueRun(x, "the job is done", 0, 99, 0);
        Checks.dueNotes(x, "the job is done", 2);
    }

    private static void ifJudges() {
        SealKeeper x = Checks.generous("on 0 { if 1 5 { say 1; } else { say 2; } cut 1 { if 1 0 { say 3; } else { say 4; ask 1 0; } } }");
        dueRun(x, "if", 0, 99, 0);
        Checks.dueNotes(x, "if", 1, 4, 11007);
        Checks.dueRan(x, "if", 6, 1, 1, 1, 1, 0, 3, 3);
        x.rule(0, 1, 4);
        dueRun(x, "if", 0, 99, 0);
        Checks.dueNotes(x, "if", 2, 4, 11007);
    }

    private static void bitsAreTaken() {
        SealKeeper x = Checks.keeper("on 0 { loop 4 { either { say 1; } or { say 0; } } }");
        x.bits(1, 3);
        dueRun(x, "either", 0, 99, 0);
        Checks.dueNotes(x, "either", 1, 0, 0, 0);
        Checks.due("those that there were", x.ran(5), 3);
        Checks.due("ran(0)", x.ran(0), 9);
        x.bits(1, 1);
        dueRun(x, "from the first one on", 0, 99, 0);
        Checks.dueNotes(x, "from the first one on", 1, 0, 0, 1);
        dueRun(x, "fewer", 0, 3, 1);
        Checks.due("ran(5)", x.ran(5), 1);
    }

    private static void spent() {
        SealKeeper x = Checks.keeper("on 0 { say 1; say 2; } on 1 { } on 2 { later 0; }");
        dueRun(x, "enough", 0, 2, 0);
        dueRun(x, "one too few", 0, 1, 1);
        Checks.dueNotes(x, "one too few", 1);
        Checks.dueRan(x, "one too few", 1, 1, 0, 0, 1, 0, 1, 0);
        dueRun(x, "none", 0, 0, 1);
        Checks.dueRan(x, "none", 0, 1, 0, 0, 1, 0, 0, 0);
        dueRun(x, "no step", 1, 0, 0);
        Checks.dueRan(x, "no step", 0, 1, 0, 0, 1, 0, 0, 0);
        dueRun(x, "in the second job", 2, 1, 1);
        Checks.dueRan(x, "in the second job", 1, 2, 0, 0, 1, 0, 0, 0);
        x = Checks.keeper("on 0 { try { ask 0 0; } else { say 1; } }");
        dueRun(x, "behind a failure", 0, 2, 1);
        Checks.dueNotes(x, "behind a failure", 11001);
        Checks.dueRan(x, "behind a failure", 2, 1, 1, 0, 1, 0, 1, 1);
    }

    private static void deep() {
        SealKeeper x = Checks.keeper("on 0 { say 1; try { call 0; } else { say 2; } say 3; } on 0 { later 0; } on 0 { call 1; }");
        dueRun(x, "deep", 0, 3000, 2);
        Checks.dueRan(x, "no try takes it", 120, 1, 0, 0, 40, 0, 40, 0);
        dueRun(x, "a job anew", 1, 3000, 2);
        Checks.dueRan(x, "a job anew", 121, 2, 0, 0, 40, 0, 40, 0);
        dueRun(x, "spent before", 0, 119, 1);
        Checks.due("ran(4)", x.ran(4), 40);
        x = Checks.generous("on 0 { loop 9 { call 1; } } on 0 { loop 9 { call 2; } } on 0 { back; }");
        dueRun(x, "those that ended do not count", 0, 3000, 0);
        Checks.due("ran(4)", x.ran(4), 3);
    }

    private static void full() {
        SealKeeper x = Checks.keeper("on 0 { loop 20 { later 1; } say 5; } on 0 { say 1; } on 0 { later 2; say 2; }"
                + " on 0 { loop 21 { try { later 1; } else { } } }");
        dueRun(x, "twenty", 0, 3000, 0);
        Checks.dueRan(x, "twenty", 42, 21, 0, 0, 1, 0, 21, 0);
        dueRun(x, "one that puts itself off", 2, 3000, 3);
        Checks.dueRan(x, "one that puts itself off", 41, 21, 0, 0, 1, 0, 20, 0);
        dueRun(x, "no try takes it", 3, 3000, 3);
        Checks.dueRan(x, "no try takes it", 43, 1, 0, 0, 1, 0, 0, 0);
    }

    private static void rulesOfNow() {
        SealKeeper x = Checks.keeper("on 2 { ask 3 3; }");
        dueRun(x, "none", 0, 9, 0);
        Checks.dueNotes(x, "none", 13000);
        x.rule(2, 3, 3);
        Checks.dueNotes(x, "the notes stay", 13000);
        dueRun(x, "now", 0, 9, 0);
        Checks.dueNotes(x, "now");
    }

    private static void theMostNotes() {
        SealKeeper x = Checks.keeper("on 0 { loop 99 { loop 99 { " + "say 999;".repeat(100) + " } } }");
        dueRun(x, "notes", 0, 3000, 1);
        Checks.due("turns", x.ran(0), 3000);
        Checks.due("notes", x.ran(6), 2998);
        Checks.due("count(2)", x.count(2), 2998);
        Checks.due("the last", x.note(2997), 999);
        Checks.due("none", x.note(2998), SealKeeper.NONE);
        x = Checks.keeper("on 0 { loop 99 { loop 99 { keep 0; under 0 { keep 0; under 0 { ask 0 0; } } } } }");
        x.rule(0, 0, 0);
        dueRun(x, "long chains of what was kept", 0, 3000, 1);
        Checks.due("judged", x.ran(7), 598);
    }

    private static void theMostBlocks() {
        String deepest = "on 0 { say 1; " + "lend 1 1 {".repeat(11) + " call 0; " + "}".repeat(11) + " say 2; }";
        SealKeeper x = Checks.generous(deepest);
        dueRun(x, "forty methods with twelve blocks each", 0, 3000, 2);
        Checks.dueRan(x, "forty methods with twelve blocks each", 40 * 13, 1, 0, 0, 40, 0, 40, 0);
        StringBuilder out = new StringBuilder();
        for (int m = 0; m < 20; m++) {
            out.append("on 0{").append(m < 19 ? "call " + (m + 1) + ";" : "back;").append("say ").append(m).append(";}");
        }
        x = Checks.keeper(out.toString());
        dueRun(x, "and all the way back", 0, 3000, 0);
        Checks.due("notes", x.ran(6), 19);
        Checks.due("the first", x.note(0), 18);
        Checks.due("the last", x.note(18), 0);
        x = Checks.generous("on 0 { try { call 1; } else { say 1; } say 2; } on 0 { " + "cut 1 {".repeat(11) + " ask 1 1; "
                + "}".repeat(11) + "}");
        dueRun(x, "a failure far within", 0, 3000, 0);
        Checks.dueNotes(x, "a failure far within", 11015, 1, 2);
    }

    private static void manyRuns() {
        SealKeeper x = Checks.generous("on 0 { loop 99 { loop 99 { cut 0 { ask 1 1; } } } } on 1 { cut 2 { lend 2 0 { ask 2 1; } } }");
        for (int i = 0; i < 50; i++) {
            dueRun(x, "a long one", 0, 3000, 1);
            Checks.due("judged", x.ran(7), 1491);
            dueRun(x, "a short one", 1, 3000, 0);
            Checks.dueNotes(x, "a short one", 12006);
        }
    }

    private static void refused() {
        SealKeeper x = new SealKeeper();
        Checks.due("no program", x.run(-1, -1), SealKeeper.STATE);
        Checks.read(x, "on 0 { say 5; } on 0 { }");
        Checks.due("no run since", x.ran(0), SealKeeper.NONE);
        x.run(0, 3000);
        int[][] wrong = {{-1, 1}, {2, 1}, {0, -1}, {0, 3001}, {Integer.MAX_VALUE, 1}, {Integer.MIN_VALUE, 1},
            {0, Integer.MAX_VALUE}, {0, Integer.MIN_VALUE}};
        for (int[] w : wrong) {
            Checks.due("run(" + w[0] + ", " + w[1] + ")", x.run(w[0], w[1]), SealKeeper.OUTSIDE);
        }
        Checks.dueNotes(x, "the notes stay", 5);
        Checks.dueRan(x, "the tallies stay", 1, 1, 0, 0, 1, 0, 1, 0);
        for (int what : new int[] {-1, 8, Integer.MAX_VALUE, Integer.MIN_VALUE}) {
            Checks.due("ran(" + what + ")", x.ran(what), SealKeeper.OUTSIDE);
            Checks.due("outside ahead of none", new SealKeeper().ran(what), SealKeeper.OUTSIDE);
        }
        for (int i : new int[] {-1, 1, Integer.MAX_VALUE, Integer.MIN_VALUE}) {
            Checks.due("note(" + i + ")", x.note(i), SealKeeper.NONE);
        }
    }
}
