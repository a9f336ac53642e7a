/** Promises 11, 12, 13, sections 3 and 4: a test for each sentence on how RIGHTS are judged, and on RUNS and their ends. */
public final class EdgesOfRunsTest {
    private static final int LEAST = Integer.MIN_VALUE, MOST = Integer.MAX_VALUE;
    private static final int DONE = 0, SPENT = 1, DEEP = 2, FULL = 3;

    public static void main(String[] args) {
        ofStacks();
        ofJobsAndTurns();
        ofSteps();
        ofEnds();
        ofNotes();
        ofPromises();
        Checks.end();
    }

    private static void ofStacks() {
        Sentence.test("11", "of METHODS that are open, with their OWNERS", EdgesOfRunsTest::openMethods);
        Sentence.test("11", "of blocks of lend, cut and under that are open, with the OWNER in whose METHOD they are",
                EdgesOfRunsTest::openBlocks);
        Sentence.test("11", "perhaps a BASE below all of them, which is another STACK as it was when it was kept.",
                EdgesOfRunsTest::basesAsTheyWere);
        Sentence.test("11", "from the latest ENTRY down:", EdgesOfRunsTest::fromTheLatestEntry);
        Sentence.test("11", "a METHOD: if its OWNER has not the RIGHT it is REFUSED, by that OWNER.",
                EdgesOfRunsTest::methodsJudge);
        Sentence.test("11", "lend: if it lends the same KIND and a LEVEL not below that asked", EdgesOfRunsTest::whatIsLent);
        Sentence.test("11", "GRANTED, if its OWNER has the RIGHT, else REFUSED by that OWNER.", EdgesOfRunsTest::whoLends);
        Sentence.test("11", "cut: of the same KIND: REFUSED by its OWNER.", EdgesOfRunsTest::cuts);
        Sentence.test("11", "under: if its OWNER has not the RIGHT: REFUSED by that OWNER;", EdgesOfRunsTest::whoWorksUnder);
        Sentence.test("11", "else it is judged on what its SLOT kept (instead of what is below).",
                EdgesOfRunsTest::whatTheSlotKept);
        Sentence.test("11", "Below all ENTRIES: on the BASE; without one GRANTED.", EdgesOfRunsTest::belowAllEntries);
    }

    private static void ofJobsAndTurns() {
        Sentence.test("11", "A RUN has JOBS, one at a time: first that of the METHOD for which it was asked, without BASE;",
                EdgesOfRunsTest::theFirstJob);
        Sentence.test("11", "then those that were put off, in their order.", EdgesOfRunsTest::jobsInTheirOrder);
        Sentence.test("11", "SLOTS keep nothing as it begins.", EdgesOfRunsTest::slotsAtFirst);
        Sentence.test("11", "RULES are those of now.", EdgesOfRunsTest::rulesOfNow);
        Sentence.test("11", "Each step that begins is a TURN", EdgesOfRunsTest::turnsOfSteps);
        Sentence.test("11", "(a try, loop, if, either once; the steps in their blocks each time).",
                EdgesOfRunsTest::turnsOfBlocks);
    }

    private static void ofSteps() {
        Sentence.test("11", "ask: the RIGHT is judged; GRANTED: nothing; REFUSED: a FAILURE.", EdgesOfRunsTest::asks);
        Sentence.test("11", "call: the METHOD is open till its block ends, or a back in it.", EdgesOfRunsTest::calls);
        Sentence.test("11", "keep: the SLOT keeps the STACK as it is.", EdgesOfRunsTest::keeps);
        Sentence.test("11", "a SLOT that keeps nothing: a FAILURE (by no one).", EdgesOfRunsTest::emptySlots);
        Sentence.test("11", "later: a JOB of the METHOD is put off, with the STACK as it is as its BASE.",
                EdgesOfRunsTest::laters);
        Sentence.test("11", "a FAILURE in it (in what it calls, too) ends all that was open within that block",
                EdgesOfRunsTest::tries);
        Sentence.test("11", "loop: the block so many times.", EdgesOfRunsTest::loops);
        Sentence.test("11", "if: the RIGHT is judged: GRANTED the first block, else the second one (no FAILURE).",
                EdgesOfRunsTest::ifs);
        Sentence.test("11", "either: the first block if the next BIT is 1; if it is 0, or there is none, the second one.",
                EdgesOfRunsTest::eithers);
        Sentence.test("11", "back: the METHOD ends.", EdgesOfRunsTest::backs);
        Sentence.test("11", "A FAILURE that no try takes ends its JOB.", EdgesOfRunsTest::failuresThatNoTryTakes);
    }

    private static void ofEnds() {
        Sentence.test("11", "DONE (0) when no JOB is left;", EdgesOfRunsTest::done);
        Sentence.test("11", "SPENT (1) if a TURN more than told would begin (it does not);", EdgesOfRunsTest::spent);
        Sentence.test("11", "DEEP (2) at a call by which 41 METHODS of the JOB would be open", EdgesOfRunsTest::deep);
        Sentence.test("11", "(JOBS put off begin anew with one);", EdgesOfRunsTest::deepInJobs);
        Sentence.test("11", "FULL (3) at a later when 20 JOBS were put off already in the run.", EdgesOfRunsTest::full);
        Sentence.test("11", "(That call, later is a TURN, and not done.)", EdgesOfRunsTest::thatCallIsATurn);
    }

    private static void ofNotes() {
        Sentence.test("13", "THE NOTES are numbers: VALUES that were said;", EdgesOfRunsTest::valuesSaid);
        Sentence.test("13", "for each FAILURE, as it arises, 10000 + 1000 * (1 more than the OWNER who refused; 0: no one)",
                EdgesOfRunsTest::notesOfFailures);
        Sentence.test("13", "Number i of THE NOTES. NONE.", EdgesOfRunsTest::numbersOfNotes);
    }

    private static void ofPromises() {
        Sentence.test("11", "A RUN of a METHOD, of at most so many TURNS (0 .. 3000)", EdgesOfRunsTest::turnsThatCanBeTold);
        Sentence.test("11", "with the BITS from the first one on (they stay);", EdgesOfRunsTest::bitsFromTheFirst);
        Sentence.test("11", "THE NOTES are empty as it begins: how it ended (0 .. 3).", EdgesOfRunsTest::notesAreEmptyAtFirst);
        Sentence.test("11", "STATE; OUTSIDE.", EdgesOfRunsTest::runOutside);
        Sentence.test("12", "Of the latest run: what 0 TURNS, 1 JOBS that began", EdgesOfRunsTest::ranTurnsAndJobs);
        Sentence.test("12", "2 FAILURES, 3 those that ended a JOB", EdgesOfRunsTest::ranFailures);
        Sentence.test("12", "4 how many METHODS of a JOB were open at most", EdgesOfRunsTest::ranMethodsOpen);
        Sentence.test("12", "5 BITS that were taken (that there were)", EdgesOfRunsTest::ranBits);
        Sentence.test("12", "6 NOTES, 7 rights that were judged (by ask and if).", EdgesOfRunsTest::ranNotesAndRights);
        Sentence.test("12", "OUTSIDE: what; NONE: there was none since the program came.", EdgesOfRunsTest::ranOutsideOrNone);
    }

    // ---- helpers

    private static void dueRun(SealKeeper x, String what, int method, int turns, int end) {
        Checks.due(what + ": run(" + method + ", " + turns + ")", x.run(method, turns), end);
    }

    /** A run of METHOD 0 that is DONE. */
    private static void dueNotes(SealKeeper x, String what, int... notes) {
        dueRun(x, what, 0, 3000, DONE);
        Checks.dueNotes(x, what, notes);
    }

    /** It is DONE with so many TURNS, and SPENT with one less. */
    private static void dueTurns(SealKeeper x, String what, int turns) {
        dueRun(x, what, 0, 3000, DONE);
        Checks.due(what + ": ran(0)", x.ran(0), turns);
        dueRun(x, what, 0, turns, DONE);
        Checks.due(what + ": ran(0)", x.ran(0), turns);
        if (turns > 0) {
            dueRun(x, what, 0, turns - 1, SPENT);
            Checks.due(what + ": ran(0)", x.ran(0), turns - 1);
        }
    }

    private static void ones(SealKeeper x, int many) {
        for (int left = many; left > 0; left -= 32) {
            x.bits(-1, Math.min(left, 32));
        }
    }

    // ---- stacks

    private static void openMethods() {
        dueNotes(Checks.without("on 0{call 1;}on 1{call 2;}on 2{ask 0 0;say 1;}"), "all have it", 1);
        dueNotes(Checks.without("on 0{call 1;}on 1{call 2;}on 2{ask 0 0;say 1;}", 1), "one that is open", 12002);
        dueNotes(Checks.without("on 0{call 1;call 2;}on 1{}on 2{ask 0 0;say 1;}", 1), "one that has ended", 1);
        dueNotes(Checks.without("on 0{call 1;call 2;}on 1{cut 0{back;}}on 2{ask 0 0;say 1;}", 1), "one that went back", 1);
        dueNotes(Checks.without("on 0{try{call 1;}else{}ask 0 0;say 1;}on 1{ask 0 0;}", 1), "one that failed", 12004, 1);
        dueNotes(Checks.without("on 0{ask 0 0;say 1;}on 1{call 0;}", 1), "one that was not called", 1);
    }

    private static void openBlocks() {
        dueNotes(Checks.without("on 3{cut 0{}ask 0 0;say 1;cut 0{call 1;}}on 4{ask 0 0;}"), "cut", 1, 14005);
        dueNotes(Checks.without("on 5{call 1;}on 6{lend 0 9{}ask 0 0;}", 5), "lend", 16002);
        dueNotes(Checks.without("on 5{call 1;}on 6{lend 0 9{ask 0 0;say 1;}}", 5), "lend", 1);
        dueNotes(Checks.without("on 0{cut 0{keep 0;}under 0{}ask 0 0;say 1;under 0{ask 0 0;}}"), "under", 1, 11006);
        dueNotes(Checks.without("on 0{try{cut 0{ask 0 0;}}else{ask 0 0;say 1;}}"), "cut that a failure ended", 11002, 1);
        dueNotes(Checks.without("on 0{call 1;ask 0 0;say 1;}on 1{cut 0{back;}}"), "cut that a back ended", 1);
        dueNotes(Checks.without("on 0{loop 2{cut 0{}ask 0 0;say 1;}}"), "cut of the time before", 1, 1);
    }

    private static void basesAsTheyWere() {
        dueNotes(Checks.without("on 0{cut 0{later 1;}ask 0 0;say 1;}on 0{ask 0 0;}"), "a cut that has ended since", 1, 11004);
        dueNotes(Checks.without("on 0{later 1;cut 0{}}on 0{ask 0 0;say 1;}"), "a cut that came since", 1);
        dueNotes(Checks.without("on 0{call 1;}on 1{lend 0 0{later 2;}}on 2{ask 0 0;say 1;}", 0), "a lend that has ended since",
                1);
        dueNotes(Checks.without("on 0{try{later 1;under 0{}}else{}}on 1{ask 0 0;say 1;}", 2), "a try that has ended since",
                10002, 1);
        dueNotes(Checks.without("on 0{cut 0{keep 0;}later 1;cut 0{later 1;}}on 1{ask 0 0;say 1;}"), "each job its own", 1, 11005);
    }

    private static void fromTheLatestEntry() {
        String chain = "on 1{call 1;}on 2{call 2;}on 3{ask 0 0;}";
        dueNotes(Checks.without(chain, 1), "the first", 12002);
        dueNotes(Checks.without(chain, 1, 2), "the second", 13002);
        dueNotes(Checks.without(chain, 1, 2, 3), "the third", 14002);
        dueNotes(Checks.without("on 1{cut 0{call 1;}}on 2{ask 0 0;}", 2), "a method above a cut", 13002);
        dueNotes(Checks.without("on 1{cut 0{call 1;}}on 2{ask 0 0;}", 1), "a cut above a method", 12002);
        dueNotes(Checks.without("on 1{lend 0 9{cut 0{ask 0 0;}}}"), "a cut above a lend", 12002);
        dueNotes(Checks.without("on 1{cut 0{lend 0 9{ask 0 0;say 1;}}}"), "a lend above a cut", 1);
        dueNotes(Checks.without("on 1{lend 0 9{call 1;}}on 2{ask 0 0;}", 2), "a method above a lend", 13002);
        dueNotes(Checks.without("on 1{call 1;}on 2{cut 0{call 2;}}on 3{cut 0{ask 0 0;}}"), "a cut above a cut", 14004);
    }

    private static void methodsJudge() {
        for (int owner = 0; owner < 8; owner++) {
            int kind = 7 - owner;
            for (int level = 0; level < 10; level++) {
                SealKeeper x = Checks.keeper("on " + owner + "{ask " + kind + " " + level + ";say 1;}");
                x.rule(owner, kind, level);
                dueNotes(x, "just the level", 1);
                x.rule(owner, kind, level - 1);
                dueNotes(x, "one below", 11000 + 1000 * owner);
                x.rule(owner, kind, 9);
                dueNotes(x, "the most", 1);
            }
        }
    }

    private static void whatIsLent() {
        for (int lent = 0; lent < 10; lent++) {
            for (int asked = 0; asked < 10; asked++) {
                SealKeeper x = Checks.keeper("on 0{call 1;}on 1{lend 2 " + lent + "{ask 2 " + asked + ";say 1;}}");
                x.rule(1, 2, 9);
                dueNotes(x, "lent " + lent + ", asked " + asked, lent >= asked ? 1 : 11002);
            }
        }
        for (int lent = 0; lent < 8; lent++) {
            for (int asked = 0; asked < 8; asked++) {
                SealKeeper x = Checks.keeper("on 0{call 1;}on 1{lend " + lent + " 9{ask " + asked + " 0;say 1;}}");
                x.rule(1, asked, 9);
                dueNotes(x, "kind " + lent + ", asked " + asked, lent == asked ? 1 : 11002);
            }
        }
        dueNotes(Checks.without("on 0{call 1;}on 1{lend 0 5{lend 0 3{ask 0 5;say 1;ask 0 6;}}}", 0),
                "the lower lend is looked at", 1, 11005);
    }

    private static void whoLends() {
        for (int rule = -1; rule < 10; rule++) {
            for (int asked = 0; asked < 10; asked++) {
                SealKeeper x = Checks.keeper("on 0{call 1;}on 1{lend 2 9{call 2;}}on 2{ask 2 " + asked + ";say 1;}");
                x.rule(1, 2, rule);
                x.rule(2, 2, 9);
                dueNotes(x, "rule " + rule + ", asked " + asked, rule >= asked ? 1 : 12003);
            }
        }
    }

    private static void cuts() {
        for (int cut = 0; cut < 8; cut++) {
            for (int asked = 0; asked < 8; asked++) {
                SealKeeper x = Checks.keeper("on 5{cut " + cut + "{try{ask " + asked + " 0;say 1;}else{}ask " + asked
                        + " 9;say 2;}}");
                x.rule(5, asked, 9);
                int[] due = cut == asked ? new int[] {16002, 16004} : new int[] {1, 2};
                dueNotes(x, "kind " + cut + ", asked " + asked, due);
            }
        }
    }

    private static void whoWorksUnder() {
        for (int rule = -1; rule < 10; rule++) {
            for (int asked = 0; asked < 10; asked++) {
                SealKeeper x = Checks.keeper("on 0{keep 0;call 1;}on 1{under 0{call 2;}}on 2{ask 2 " + asked + ";say 1;}");
                x.rule(0, 2, 9);
                x.rule(1, 2, rule);
                x.rule(2, 2, 9);
                dueNotes(x, "rule " + rule + ", asked " + asked, rule >= asked ? 1 : 12004);
            }
        }
        dueNotes(Checks.without("on 0{cut 0{keep 0;}call 1;}on 1{under 0{ask 0 0;}}", 1), "ahead of what was kept", 12004);
    }

    private static void whatTheSlotKept() {
        dueNotes(Checks.without("on 0{keep 0;cut 0{call 1;}}on 1{under 0{ask 0 0;say 1;}}"), "a cut that is below", 1);
        dueNotes(Checks.without("on 0{keep 0;call 1;}on 1{call 2;}on 2{under 0{ask 0 0;say 1;}}", 1), "a method that is below",
                1);
        dueNotes(Checks.without("on 0{cut 0{keep 0;}call 1;}on 1{under 0{ask 0 0;}}"), "a cut that was kept", 11004);
        dueNotes(Checks.without("on 0{call 1;call 2;}on 1{keep 3;}on 2{ask 0 0;say 1;under 3{ask 0 0;}}", 1),
                "a method that was kept", 1, 12006);
        dueNotes(Checks.without("on 5{call 1;}on 0{lend 0 4{keep 0;}under 0{ask 0 4;say 1;ask 0 5;}}", 5),
                "a lend that was kept", 1, 16006);
        dueNotes(Checks.without("on 0{keep 1;cut 0{keep 0;}under 0{under 1{ask 0 0;say 1;}ask 0 0;}}"), "under within under", 1,
                11007);
        dueNotes(Checks.without("on 0{keep 0;under 0{cut 0{keep 0;}ask 0 0;say 1;}under 0{ask 0 0;}}"),
                "what it kept as the block began", 1, 11007);
        dueNotes(Checks.without("on 0{cut 0{keep 0;}under 0{lend 0 9{ask 0 9;say 1;}cut 1{ask 1 0;}}}"),
                "what is above the under", 1, 11007);
    }

    private static void belowAllEntries() {
        dueNotes(Checks.without("on 0{ask 0 9;say 1;}"), "without a base", 1);
        dueNotes(Checks.without("on 0{later 1;}on 1{ask 0 9;say 1;}"), "a base", 1);
        dueNotes(Checks.without("on 0{later 1;}on 1{ask 0 9;say 1;}", 0), "a base that refuses", 11001);
        dueNotes(Checks.without("on 0{cut 0{later 1;}}on 1{ask 0 0;}"), "a base with a cut", 11002);
        dueNotes(Checks.without("on 0{call 1;}on 1{lend 0 5{later 2;}}on 2{ask 0 5;say 1;ask 0 6;}", 0), "a base with a lend",
                1, 11005);
        dueNotes(Checks.without("on 0{later 1;}on 1{later 2;}on 2{later 3;}on 3{ask 0 0;say 1;}", 0),
                "a base of a base of a base", 11003);
        dueNotes(Checks.without("on 0{later 1;}on 1{keep 0;later 2;}on 2{under 0{ask 0 0;}}", 0), "a base of what was kept",
                11004);
        dueNotes(Checks.without("on 0{cut 0{keep 0;}call 1;}on 1{under 0{later 2;}}on 2{ask 0 0;}"), "a base with an under",
                11005);
        dueNotes(Checks.without("on 0{keep 0;cut 0{under 0{later 1;}}}on 2{ask 0 0;say 1;}"), "a base with an under", 1);
    }

    // ---- jobs and turns

    private static void theFirstJob() {
        SealKeeper x = Checks.without("on 0{say 0;later 1;cut 0{later 2;}}on 1{say 1;}on 2{say 2;ask 0 0;say 3;}");
        dueRun(x, "method 0", 0, 99, DONE);
        Checks.dueNotes(x, "method 0", 0, 1, 2, 11006);
        dueRun(x, "method 2, without a base", 2, 99, DONE);
        Checks.dueNotes(x, "method 2, without a base", 2, 3);
        dueRun(x, "method 1", 1, 99, DONE);
        Checks.dueNotes(x, "method 1", 1);
    }

    private static void jobsInTheirOrder() {
        dueNotes(Checks.without("on 0{later 1;later 2;later 1;say 9;}on 0{say 1;}on 0{say 2;}"), "behind the first", 9, 1, 2, 1);
        dueNotes(Checks.without("on 0{later 1;later 2;}on 0{later 3;say 1;}on 0{say 2;}on 0{say 3;}"), "behind all others", 1,
                2, 3);
        dueNotes(Checks.without("on 0{try{later 1;ask 0 0;}else{later 2;}}on 1{say 1;}on 1{say 2;}", 0),
                "a failure leaves them", 11002, 1, 2);
    }

    private static void slotsAtFirst() {
        for (int slot = 0; slot < 4; slot++) {
            SealKeeper x = Checks.without("on 0{later 1;keep " + slot + ";}on 0{under " + slot + "{say 1;}}");
            dueNotes(x, "in a later job of the run", 1);
            dueRun(x, "in the next run", 1, 99, DONE);
            Checks.dueNotes(x, "in the next run", 10002);
        }
    }

    private static void rulesOfNow() {
        SealKeeper x = Checks.keeper("on 0{ask 0 5;say 1;}");
        x.ahead(0);
        dueNotes(x, "none", 11000);
        x.rule(0, 0, 5);
        dueNotes(x, "just enough", 1);
        x.rule(0, 0, 4);
        dueNotes(x, "one below", 11000);
        x.rule(0, 0, 5);
        x.rule(0, 0, -2);
        dueNotes(x, "a refused rule", 1);
        Checks.read(x, "on 0{ask 0 5;say 2;}");
        dueNotes(x, "another program", 2);
    }

    private static void turnsOfSteps() {
        dueTurns(Checks.without("on 0{}"), "no step", 0);
        dueTurns(Checks.without("on 0{ask 0 0;}"), "ask, granted", 1);
        dueTurns(Checks.without("on 0{ask 0 0;say 1;}", 0), "ask, refused", 1);
        dueTurns(Checks.without("on 0{call 1;}on 0{}"), "call", 1);
        dueTurns(Checks.without("on 0{call 1;}on 0{say 1;}"), "call of one step", 2);
        dueTurns(Checks.without("on 0{lend 0 0{}}"), "lend", 1);
        dueTurns(Checks.without("on 0{cut 0{}}"), "cut", 1);
        dueTurns(Checks.without("on 0{keep 0;}"), "keep", 1);
        dueTurns(Checks.without("on 0{under 0{say 1;}say 1;}"), "under of nothing", 1);
        dueTurns(Checks.without("on 0{keep 0;under 0{}}"), "keep and under", 2);
        dueTurns(Checks.without("on 0{later 1;}on 0{}"), "later of no step", 1);
        dueTurns(Checks.without("on 0{later 1;}on 0{say 1;}"), "later of one step", 2);
        dueTurns(Checks.without("on 0{say 1;}"), "say", 1);
        dueTurns(Checks.without("on 0{back;say 1;}"), "back", 1);
    }

    private static void turnsOfBlocks() {
        dueTurns(Checks.without("on 0{try{}else{}}"), "try", 1);
        dueTurns(Checks.without("on 0{try{say 1;}else{say 2;}}"), "try, not failing", 2);
        dueTurns(Checks.without("on 0{try{ask 0 0;say 1;}else{say 2;say 3;}}", 0), "try, failing", 4);
        dueTurns(Checks.without("on 0{loop 0{say 1;}}"), "loop 0", 1);
        dueTurns(Checks.without("on 0{loop 1{say 1;}}"), "loop 1", 2);
        dueTurns(Checks.without("on 0{loop 99{say 1;}}"), "loop 99", 100);
        dueTurns(Checks.without("on 0{loop 99{}}"), "an empty loop", 1);
        dueTurns(Checks.without("on 0{loop 99{loop 0{say 1;}}}"), "loops of no times in one", 100);
        dueTurns(Checks.without("on 0{loop 2{loop 3{say 1;}}}"), "a loop in a loop", 9);
        dueTurns(Checks.without("on 0{if 0 0{}else{say 1;}}"), "if, the first empty", 1);
        dueTurns(Checks.without("on 0{if 0 0{say 1;say 1;}else{say 1;}}"), "if, granted", 3);
        dueTurns(Checks.without("on 0{if 0 0{say 1;say 1;}else{say 1;}}", 0), "if, refused", 2);
        dueTurns(Checks.without("on 0{either{say 1;}or{}}"), "either, the second empty", 1);
        dueTurns(Checks.without("on 0{either{}or{say 1;say 2;}}"), "either, the second", 3);
    }

    // ---- steps

    private static void asks() {
        SealKeeper x = Checks.without("on 0{ask 0 9;say 1;ask 0 0;say 2;}");
        dueNotes(x, "granted", 1, 2);
        Checks.dueRan(x, "granted", 4, 1, 0, 0, 1, 0, 2, 2);
        x.rule(0, 0, 8);
        dueNotes(x, "refused", 11000);
        Checks.dueRan(x, "refused", 1, 1, 1, 1, 1, 0, 1, 1);
        x = Checks.without("on 0{try{ask 0 9;say 1;}else{}say 2;}", 0);
        dueNotes(x, "taken", 11001, 2);
        Checks.dueRan(x, "taken", 3, 1, 1, 0, 1, 0, 2, 1);
    }

    private static void calls() {
        SealKeeper x = Checks.without("on 0{call 1;say 1;call 1;}on 1{call 2;say 2;}on 2{say 3;back;say 4;}");
        dueNotes(x, "one behind the other", 3, 2, 1, 3, 2);
        Checks.due("open at most", x.ran(4), 3);
        StringBuilder chain = new StringBuilder();
        for (int m = 0; m < 20; m++) {
            chain.append("on 0{").append(m < 19 ? "call " + (m + 1) + ";" : "").append("say ").append(m).append(";}");
        }
        x = Checks.without(chain.toString());
        dueRun(x, "twenty", 0, 39, DONE);
        Checks.due("open at most", x.ran(4), 20);
        for (int m = 0; m < 20; m++) {
            Checks.due("note(" + m + ")", x.note(m), 19 - m);
        }
    }

    private static void keeps() {
        dueNotes(Checks.without("on 0{cut 0{keep 0;}keep 0;under 0{ask 0 0;say 1;}}"), "the latest keep counts", 1);
        dueNotes(Checks.without("on 0{keep 0;cut 0{keep 0;}under 0{ask 0 0;}}"), "the latest keep counts", 11004);
        dueNotes(Checks.without("on 0{keep 0;cut 0{keep 3;}try{under 3{ask 0 0;}}else{}under 0{ask 0 0;say 1;}}"),
                "each slot keeps its own", 11005, 1);
        dueNotes(Checks.without("on 0{keep 1;cut 0{under 1{ask 0 0;say 1;}ask 0 0;}}"), "as it was, not as it is later", 1,
                11005);
        dueNotes(Checks.without("on 0{try{keep 2;ask 0 0;}else{}lend 0 9{under 2{say 1;}}}", 0), "a failure leaves it", 11002, 1);
        dueNotes(Checks.without("on 0{call 1;under 0{ask 0 0;}}on 1{cut 0{keep 0;back;}}"), "a back leaves it", 12002);
    }

    private static void emptySlots() {
        for (int slot = 0; slot < 4; slot++) {
            SealKeeper x = Checks.generous("on 0{keep " + (slot + 1) % 4 + ";keep " + (slot + 2) % 4 + ";keep " + (slot + 3) % 4
                    + ";try{under " + slot + "{say 1;}}else{say 2;}keep " + slot + ";under " + slot + "{say 3;}}");
            dueNotes(x, "slot " + slot, 10004, 2, 3);
            Checks.dueRan(x, "slot " + slot, 9, 1, 1, 0, 1, 0, 3, 0);
        }
        SealKeeper x = Checks.generous("on 7{under 0{}say 1;}");
        dueNotes(x, "that no try takes", 10000);
        Checks.dueRan(x, "that no try takes", 1, 1, 1, 1, 1, 0, 1, 0);
    }

    private static void laters() {
        dueNotes(Checks.without("on 0{cut 0{later 1;}later 1;say 9;}on 1{ask 0 0;say 1;}"), "in a block, and behind it", 9,
                11004, 1);
        dueNotes(Checks.without("on 0{call 1;}on 1{later 2;back;}on 2{ask 0 0;say 1;}", 1), "a method that has ended since",
                12003);
        SealKeeper x = Checks.without("on 0{later 0;}", 1);
        dueRun(x, "itself, for ever", 0, 3000, FULL);
        x = Checks.without("on 0{either{later 0;}or{say 1;}}");
        x.bits(1, 1);
        dueNotes(x, "itself, once", 1);
        Checks.due("jobs", x.ran(1), 2);
    }

    private static void tries() {
        dueNotes(Checks.without("on 0{try{}else{say 1;}say 2;}"), "no step", 2);
        dueNotes(Checks.without("on 0{try{say 1;}else{say 2;}say 3;}"), "no failure", 1, 3);
        dueNotes(Checks.without("on 0{try{ask 0 0;}else{}say 3;}", 0), "an empty second block", 11001, 3);
        dueNotes(Checks.without("on 0{try{call 1;say 1;}else{say 2;}say 3;}on 1{call 2;say 4;}on 2{loop 9{cut 0{ask 0 0;}}say 5;}"), "in what it calls",
                13009, 2, 3);
        dueNotes(Checks.without("on 0{try{cut 1{lend 0 9{call 1;}}}else{ask 1 9;say 1;}ask 1 9;say 2;}on 1{ask 1 0;}"),
                "blocks within are ended",
                11008, 1, 2);
        dueNotes(Checks.without("on 0{cut 1{try{under 0{}}else{ask 1 0;}}}"), "blocks around it stay", 10002, 11003);
        dueNotes(Checks.without("on 0{try{try{ask 0 0;}else{say 1;}say 2;}else{say 3;}}", 0), "the inner try takes it", 11002,
                1, 2);
        dueNotes(Checks.without("on 0{try{try{say 1;}else{}ask 0 0;}else{say 3;}}", 0), "a try that is done takes nothing", 1,
                11003, 3);
        dueNotes(Checks.without("on 0{try{try{ask 0 0;}else{say 1;ask 0 1;say 2;}say 3;}else{say 4;}}", 0),
                "a failure in the second block",
                11002, 1, 11004, 4);
        dueNotes(Checks.without("on 0{try{ask 0 0;}else{ask 0 1;}say 1;}", 0), "that no other try takes", 11001, 11002);
        dueNotes(Checks.without("on 0{loop 3{try{ask 0 0;}else{say 1;}}}", 0), "each time anew", 11002, 1, 11002, 1, 11002, 1);
        dueNotes(Checks.without("on 0{later 1;try{say 1;}else{say 2;}}on 1{ask 0 0;}", 1), "not for a job that is put off", 1,
                12004);
        SealKeeper x = Checks.without("on 0{call 1;}on 1{" + "cut 2{".repeat(10) + "try{call 2;}else{say 1;}" + "}".repeat(11)
                + "on 2{" + "cut 3{".repeat(11) + "ask 0 0;" + "}".repeat(12), 2);
        dueNotes(x, "twelve blocks around and within", 10000 + 3000 + 25, 1);
    }

    private static void loops() {
        for (int times : new int[] {0, 1, 2, 98, 99}) {
            SealKeeper x = Checks.without("on 0{loop " + times + "{say 5;}say 6;}");
            dueRun(x, "loop " + times, 0, 3000, DONE);
            Checks.due("loop " + times + ": notes", x.count(2), times + 1);
            Checks.due("loop " + times + ": the last", x.note(times), 6);
        }
        SealKeeper x = Checks.without("on 0{loop 99{loop 29{}}}on 0{loop 54{loop 54{say 1;}}}on 0{loop 2{loop 0{say 1;}loop 2{say 2;}}}");
        dueRun(x, "empty ones", 0, 3000, DONE);
        Checks.due("turns", x.ran(0), 100);
        dueRun(x, "one in another", 1, 3000, DONE);
        Checks.due("notes", x.ran(6), 54 * 54);
        dueRun(x, "anew each time", 2, 3000, DONE);
        Checks.dueNotes(x, "anew each time", 2, 2, 2, 2);
    }

    private static void ifs() {
        SealKeeper x = Checks.keeper("on 0{if 0 5{say 1;}else{say 2;}say 3;}");
        for (int rule = -1; rule < 10; rule++) {
            x.rule(0, 0, rule);
            dueNotes(x, "rule " + rule, rule >= 5 ? 1 : 2, 3);
            Checks.dueRan(x, "rule " + rule, 3, 1, 0, 0, 1, 0, 2, 1);
        }
        dueNotes(Checks.without("on 0{try{cut 0{if 0 0{say 1;}else{say 2;}}}else{say 3;}}"), "on the stack", 2);
        dueNotes(Checks.without("on 0{call 1;}on 1{if 0 0{}else{say 2;}lend 0 0{if 0 0{say 1;}else{}}}", 0), "on the stack", 2,
                1);
    }

    private static void eithers() {
        SealKeeper x = Checks.without("on 0{loop 4{either{say 1;}or{say 2;}}}");
        dueNotes(x, "no bit", 2, 2, 2, 2);
        x.bits(1, 1);
        dueNotes(x, "one bit", 1, 2, 2, 2);
        x.bits(2, 2);
        dueNotes(x, "three bits", 1, 2, 1, 2);
        x.bits(1, 1);
        dueNotes(x, "four bits", 1, 2, 1, 1);
        x.bits(0, 1);
        dueNotes(x, "five bits", 1, 2, 1, 1);
        x = Checks.without("on 0{either{either{say 1;}or{say 2;}}or{say 3;}either{say 4;}or{say 5;}}");
        x.bits(5, 3);
        dueNotes(x, "one within another", 2, 4);
        x = Checks.without("on 0{loop 20{loop 20{either{}or{say 1;}}}either{say 2;}or{say 3;}}");
        ones(x, 400);
        dueNotes(x, "behind the 400th there is none", 3);
        Checks.due("taken", x.ran(5), 400);
        x = Checks.without("on 0{later 1;either{say 1;}or{}}on 0{either{}or{say 2;}either{say 3;}or{}}");
        x.bits(5, 3);
        dueNotes(x, "jobs take them one behind the other", 1, 2, 3);
    }

    private static void backs() {
        SealKeeper x = Checks.without("on 0{back;say 1;}");
        dueNotes(x, "of the job");
        Checks.dueRan(x, "of the job", 1, 1, 0, 0, 1, 0, 0, 0);
        dueNotes(Checks.without("on 0{call 1;say 1;}on 0{back;say 2;}"), "of one that was called", 1);
        dueNotes(Checks.without("on 0{call 1;say 1;}on 0{loop 9{say 2;back;}say 3;}"), "out of a loop", 2, 1);
        dueNotes(Checks.without("on 0{call 1;say 1;}on 0{try{back;}else{say 2;}say 3;}"), "no try takes it", 1);
        dueNotes(Checks.without("on 0{try{call 1;ask 0 0;}else{say 1;}}on 1{try{back;}else{say 2;}}", 0),
                "the caller's try stays", 11002, 1);
        dueNotes(Checks.without("on 0{later 1;back;}on 0{say 1;back;}"), "of a job that another follows", 1);
        x = Checks.without("on 0{call 1;ask 0 9;say 1;}on 0{" + "cut 0{".repeat(11) + "back;" + "}".repeat(11) + "say 2;}");
        dueNotes(x, "out of twelve blocks", 1);
        Checks.dueRan(x, "out of twelve blocks", 15, 1, 0, 0, 2, 0, 1, 1);
    }

    private static void failuresThatNoTryTakes() {
        SealKeeper x = Checks.without("on 0{later 1;later 2;call 1;say 1;}on 1{cut 0{ask 0 0;}say 2;}on 2{say 3;}");
        dueNotes(x, "the next job begins", 12005, 12005, 3);
        Checks.dueRan(x, "the next job begins", 3 + 2 + 2 + 1, 3, 2, 2, 2, 0, 3, 2);
        x = Checks.without("on 0{under 0{}}");
        dueNotes(x, "no job is left", 10000);
        Checks.dueRan(x, "no job is left", 1, 1, 1, 1, 1, 0, 1, 0);
    }

    // ---- ends

    private static void done() {
        SealKeeper x = Checks.without("on 0{}on 0{later 0;}on 0{loop 20{later 0;}}");
        dueRun(x, "no step", 0, 0, DONE);
        Checks.dueRan(x, "no step", 0, 1, 0, 0, 1, 0, 0, 0);
        dueRun(x, "a job without a step needs no turn", 1, 1, DONE);
        Checks.dueRan(x, "a job without a step needs no turn", 1, 2, 0, 0, 1, 0, 0, 0);
        dueRun(x, "twenty of them", 2, 21, DONE);
        Checks.dueRan(x, "twenty of them", 21, 21, 0, 0, 1, 0, 0, 0);
    }

    /** A METHOD of so many TURNS, 2971 or more. */
    private static String ofTurns(int turns) {
        return "on 0{loop 99{" + "say 1;".repeat(30) + "}" + "say 2;".repeat(turns - 2971) + "}";
    }

    private static void spent() {
        SealKeeper x = Checks.keeper("on 0{say 1;say 2;}on 0{later 0;}on 0{try{ask 0 0;}else{say 1;}}");
        dueRun(x, "two turns", 0, 2, DONE);
        dueRun(x, "two turns", 0, 1, SPENT);
        Checks.dueNotes(x, "one turn", 1);
        Checks.dueRan(x, "one turn", 1, 1, 0, 0, 1, 0, 1, 0);
        dueRun(x, "no turn", 0, 0, SPENT);
        Checks.dueNotes(x, "no turn");
        Checks.dueRan(x, "no turn", 0, 1, 0, 0, 1, 0, 0, 0);
        dueRun(x, "in the second job", 1, 2, SPENT);
        Checks.dueRan(x, "in the second job", 2, 2, 0, 0, 1, 0, 1, 0);
        dueRun(x, "behind a failure", 2, 2, SPENT);
        Checks.dueNotes(x, "behind a failure", 11004);
        Checks.dueRan(x, "no try takes it", 2, 1, 1, 0, 1, 0, 1, 1);
        x = Checks.keeper(ofTurns(3000));
        dueRun(x, "all 3000", 0, 3000, DONE);
        Checks.due("turns", x.ran(0), 3000);
        Checks.due("notes", x.ran(6), 2999);
        dueRun(x, "2999 of 3000", 0, 2999, SPENT);
        Checks.due("notes", x.ran(6), 2998);
        x = Checks.keeper(ofTurns(3001));
        dueRun(x, "3000 of 3001", 0, 3000, SPENT);
        Checks.due("turns", x.ran(0), 3000);
    }

    private static void deep() {
        SealKeeper x = Checks.without("on 0{either{call 0;}or{say 1;}say 2;}");
        ones(x, 39);
        dueRun(x, "40 open", 0, 3000, DONE);
        Checks.dueRan(x, "40 open", 120, 1, 0, 0, 40, 39, 41, 0);
        ones(x, 1);
        dueRun(x, "41 would be open", 0, 3000, DEEP);
        Checks.dueRan(x, "41 would be open", 80, 1, 0, 0, 40, 40, 0, 0);
        x = Checks.without("on 0{try{call 0;}else{say 1;}}on 0{loop 50{call 2;}}on 0{back;}on 0{loop 50{try{call 4;}else{}}}on 1{ask 0 0;}", 1);
        dueRun(x, "no try takes it", 0, 3000, DEEP);
        Checks.dueRan(x, "no try takes it", 80, 1, 0, 0, 40, 0, 0, 0);
        dueRun(x, "those that went back are not open", 1, 3000, DONE);
        Checks.due("open at most", x.ran(4), 2);
        dueRun(x, "those that failed are not open", 3, 3000, DONE);
        Checks.due("open at most", x.ran(4), 2);
        Checks.due("failures", x.ran(2), 50);
        x = Checks.without("on 0{" + "lend 1 1{".repeat(11) + "call 0;" + "}".repeat(12));
        dueRun(x, "forty methods with twelve blocks each", 0, 3000, DEEP);
        Checks.due("turns", x.ran(0), 40 * 12);
    }

    private static void deepInJobs() {
        SealKeeper x = Checks.without("on 0{either{call 0;}or{later 1;}}on 0{either{call 1;}or{say 1;}}");
        ones(x, 39);
        x.bits(0, 1);
        ones(x, 39);
        x.bits(0, 1);
        dueRun(x, "40 open in both", 0, 3000, DONE);
        Checks.dueRan(x, "40 open in both", 160, 2, 0, 0, 40, 80, 1, 0);
        x.forget();
        ones(x, 39);
        x.bits(0, 1);
        ones(x, 40);
        dueRun(x, "41 would be open in the second", 0, 3000, DEEP);
        Checks.dueRan(x, "41 would be open in the second", 160, 2, 0, 0, 40, 80, 0, 0);
        x = Checks.without("on 0{call 1;}on 1{call 2;}on 2{later 3;ask 0 0;}on 3{say 1;}", 2);
        dueNotes(x, "behind a job that failed with three open", 13003, 1);
        Checks.due("open at most", x.ran(4), 3);
    }

    private static void full() {
        for (int jobs : new int[] {19, 20, 21}) {
            SealKeeper x = Checks.without("on 0{loop " + jobs + "{later 1;}say 5;}on 0{say 1;}");
            dueRun(x, jobs + " jobs", 0, 3000, jobs > 20 ? FULL : DONE);
            Checks.due(jobs + " jobs: began", x.ran(1), jobs > 20 ? 1 : jobs + 1);
            Checks.due(jobs + " jobs: notes", x.ran(6), jobs > 20 ? 0 : jobs + 1);
        }
        SealKeeper x = Checks.without("on 0{later 0;say 1;}on 0{later 2;}on 0{loop 19{later 3;}}on 0{say 2;}on 0{later 5;}on 0{loop 20{later 3;}}");
        dueRun(x, "those that are done count, too", 0, 3000, FULL);
        Checks.dueRan(x, "those that are done count, too", 41, 21, 0, 0, 1, 0, 20, 0);
        dueRun(x, "twenty by two jobs", 1, 3000, DONE);
        Checks.due("began", x.ran(1), 21);
        dueRun(x, "twenty-one by two jobs", 4, 3000, FULL);
        Checks.due("began", x.ran(1), 2);
        dueRun(x, "each run has its own", 1, 3000, DONE);
        x = Checks.without("on 0{try{loop 21{later 1;}}else{say 1;}}on 0{}");
        dueRun(x, "no try takes it", 0, 3000, FULL);
        Checks.dueRan(x, "no try takes it", 23, 1, 0, 0, 1, 0, 0, 0);
    }

    private static void thatCallIsATurn() {
        SealKeeper x = Checks.without("on 0{call 0;}on 0{loop 21{later 2;}}on 0{say 1;}");
        dueRun(x, "the 40th call", 0, 40, DEEP);
        Checks.dueRan(x, "the 40th call", 40, 1, 0, 0, 40, 0, 0, 0);
        dueRun(x, "without a turn for it", 0, 39, SPENT);
        Checks.dueRan(x, "without a turn for it", 39, 1, 0, 0, 40, 0, 0, 0);
        dueRun(x, "the 21st later", 1, 22, FULL);
        Checks.dueRan(x, "the 21st later", 22, 1, 0, 0, 1, 0, 0, 0);
        dueRun(x, "without a turn for it", 1, 21, SPENT);
        Checks.dueRan(x, "without a turn for it", 21, 1, 0, 0, 1, 0, 0, 0);
    }

    // ---- notes

    private static void valuesSaid() {
        dueNotes(Checks.without("on 0{say 0;say 999;say 1;say 000;say 007;}"), "their edges", 0, 999, 1, 0, 7);
    }

    private static void notesOfFailures() {
        for (int owner = 0; owner < 8; owner++) {
            SealKeeper x = Checks.keeper("on 0{" + "back;".repeat(199) + "}on " + owner + "{ask 7 9;}");
            dueRun(x, "owner " + owner, 1, 9, DONE);
            Checks.dueNotes(x, "the last step", 10000 + 1000 * (owner + 1) + 199);
            x = Checks.keeper("on " + owner + "{ask 7 9;}");
            dueNotes(x, "the first step", 10000 + 1000 * (owner + 1));
        }
        SealKeeper x = Checks.keeper("on 0{" + "back;".repeat(199) + "}on 7{under 3{}}");
        dueRun(x, "no one", 1, 9, DONE);
        Checks.dueNotes(x, "no one", 10199);
        dueNotes(Checks.without("on 0{try{say 1;ask 0 0;say 2;}else{say 3;}say 4;}", 0), "as it arises", 1, 11002, 3, 4);
    }

    private static void numbersOfNotes() {
        Checks.due("without a run", new SealKeeper().note(0), SealKeeper.NONE);
        SealKeeper x = Checks.keeper("on 0{say 5;say 6;}on 0{}");
        Checks.due("without a run", x.note(0), SealKeeper.NONE);
        x.run(0, 9);
        Checks.due("note(0)", x.note(0), 5);
        Checks.due("note(1)", x.note(1), 6);
        for (int wrong : new int[] {-1, 2, 3000, LEAST, MOST}) {
            Checks.due("note(" + wrong + ")", x.note(wrong), SealKeeper.NONE);
        }
        x.run(1, 9);
        Checks.due("of a run without notes", x.note(0), SealKeeper.NONE);
        x = Checks.keeper(ofTurns(3000));
        x.run(0, 3000);
        Checks.due("the last of the most", x.note(2998), 2);
        Checks.due("none behind it", x.note(2999), SealKeeper.NONE);
    }

    // ---- promises

    private static void turnsThatCanBeTold() {
        SealKeeper x = Checks.keeper("on 0{loop 99{loop 99{say 1;}}}");
        for (int turns : new int[] {0, 1, 2, 2999, 3000}) {
            dueRun(x, "told", 0, turns, SPENT);
            Checks.due("ran(0)", x.ran(0), turns);
        }
        for (int wrong : new int[] {-1, 3001, LEAST, MOST}) {
            dueRun(x, "not told", 0, wrong, SealKeeper.OUTSIDE);
        }
        x = Checks.without("on 0{" + "call1;".repeat(99) + "call2;".repeat(27) + "cut 0{cut 1{ask 0 0;}}}on 0{"
                + "call2;".repeat(29) + "}on 0{}");
        dueRun(x, "2999 turns that make an entry each", 0, 3000, DONE);
        Checks.dueRan(x, "2999 turns that make an entry each", 3000, 1, 1, 1, 3, 0, 1, 1);
        Checks.dueNotes(x, "2999 turns that make an entry each", 11128);
    }

    private static void bitsFromTheFirst() {
        SealKeeper x = Checks.keeper("on 0{either{say 1;}or{say 2;}either{say 3;}or{say 4;}}");
        x.bits(1, 2);
        for (int i = 0; i < 3; i++) {
            dueNotes(x, "each run", 1, 4);
            Checks.due("they stay", x.count(1), 2);
        }
        dueRun(x, "a run that takes one", 0, 1, SPENT);
        Checks.due("taken", x.ran(5), 1);
        dueNotes(x, "the next run", 1, 4);
        Checks.read(x, "on 0{either{say 5;}or{say 6;}}");
        dueNotes(x, "another program", 5);
    }

    private static void notesAreEmptyAtFirst() {
        SealKeeper x = Checks.without("on 0{say 1;say 2;}on 0{}on 0{say 3;call 2;}on 0{later 3;}");
        dueNotes(x, "two", 1, 2);
        dueNotes(x, "two again", 1, 2);
        dueRun(x, "none", 1, 9, DONE);
        Checks.dueNotes(x, "none");
        dueNotes(x, "two", 1, 2);
        dueRun(x, "spent at once", 0, 0, SPENT);
        Checks.dueNotes(x, "spent at once");
        dueRun(x, "deep", 2, 3000, DEEP);
        Checks.due("deep: notes", x.count(2), 40);
        dueRun(x, "full", 3, 3000, FULL);
        Checks.dueNotes(x, "full");
    }

    private static void runOutside() {
        SealKeeper x = new SealKeeper();
        Checks.due("no program", x.run(0, 1), SealKeeper.STATE);
        for (int methods : new int[] {1, 20}) {
            x = Checks.keeper(Texts.methods(methods));
            dueRun(x, "the first", 0, 0, DONE);
            dueRun(x, "the last", methods - 1, 3000, DONE);
            for (int wrong : new int[] {-1, methods, 99, LEAST, MOST}) {
                dueRun(x, "a method", wrong, 9, SealKeeper.OUTSIDE);
            }
            for (int wrong : new int[] {-1, 3001, LEAST, MOST}) {
                dueRun(x, "turns", 0, wrong, SealKeeper.OUTSIDE);
            }
        }
    }

    private static void ranTurnsAndJobs() {
        SealKeeper x = Checks.without("on 0{}on 0{say 1;loop 20{later 0;}}");
        dueRun(x, "the least", 0, 0, DONE);
        Checks.dueRan(x, "the least", 0, 1);
        dueRun(x, "all jobs", 1, 3000, DONE);
        Checks.dueRan(x, "all jobs", 22, 21);
        dueRun(x, "jobs that were put off, but did not begin", 1, 12, SPENT);
        Checks.dueRan(x, "jobs that were put off, but did not begin", 12, 1);
        x = Checks.keeper(ofTurns(3000));
        dueRun(x, "all turns", 0, 3000, DONE);
        Checks.dueRan(x, "all turns", 3000, 1);
    }

    private static void ranFailures() {
        SealKeeper x = Checks.without("on 0{loop 99{try{ask 0 0;}else{}}}on 0{loop 20{later 2;}ask 0 0;}on 0{under 0{}}on 0{}",
                0);
        dueRun(x, "all are taken", 0, 3000, DONE);
        Checks.due("failures", x.ran(2), 99);
        Checks.due("those that ended a job", x.ran(3), 0);
        dueRun(x, "none is taken", 1, 3000, DONE);
        Checks.due("failures", x.ran(2), 21);
        Checks.due("those that ended a job", x.ran(3), 21);
        dueRun(x, "none", 3, 3000, DONE);
        Checks.due("failures", x.ran(2), 0);
        Checks.due("those that ended a job", x.ran(3), 0);
    }

    private static void ranMethodsOpen() {
        SealKeeper x = Checks.without("on 0{}on 0{call 0;call 0;}on 0{later 1;}on 0{call 1;later 0;}on 0{call 4;}");
        int[] due = {1, 2, 2, 3, 40};
        for (int method = 0; method < due.length; method++) {
            x.run(method, 3000);
            Checks.due("method " + method, x.ran(4), due[method]);
        }
    }

    private static void ranBits() {
        SealKeeper x = Checks.keeper("on 0{loop 3{either{}or{}}}on 0{}");
        for (int bits = 0; bits < 6; bits++) {
            x.run(0, 99);
            Checks.due("of " + bits, x.ran(5), Math.min(bits, 3));
            x.bits(0, 1);
        }
        x.run(1, 99);
        Checks.due("of a run without either", x.ran(5), 0);
        x = Checks.keeper("on 0{loop 20{loop 20{either{}or{}}}}on 0{loop 21{loop 20{either{}or{}}}}");
        ones(x, 400);
        x.run(0, 3000);
        Checks.due("all 400", x.ran(5), 400);
        x.run(1, 3000);
        Checks.due("all 400, and 20 that there were not", x.ran(5), 400);
    }

    private static void ranNotesAndRights() {
        SealKeeper x = Checks.without("on 0{ask 0 0;if 0 0{}else{}if 1 1{say 1;}else{}ask 1 1;}on 0{call 0;later 0;}on 0{lend 0 0{cut 0{}}under 0{}}");
        dueRun(x, "four", 0, 99, DONE);
        Checks.due("notes", x.ran(6), 1);
        Checks.due("rights", x.ran(7), 4);
        dueRun(x, "in all jobs and methods", 1, 99, DONE);
        Checks.due("notes", x.ran(6), 2);
        Checks.due("rights", x.ran(7), 8);
        dueRun(x, "by no others", 2, 99, DONE);
        Checks.due("notes", x.ran(6), 1);
        Checks.due("rights", x.ran(7), 0);
        x.rule(0, 0, -1);
        dueRun(x, "refused", 0, 99, DONE);
        Checks.due("notes", x.ran(6), 1);
        Checks.due("rights", x.ran(7), 1);
    }

    private static void ranOutsideOrNone() {
        SealKeeper x = new SealKeeper();
        Checks.due("no program", x.ran(0), SealKeeper.NONE);
        Checks.read(x, "on 0{say 1;}");
        for (int what = 0; what < 8; what++) {
            Checks.due("no run: ran(" + what + ")", x.ran(what), SealKeeper.NONE);
        }
        x.run(0, 3001);
        x.run(1, 1);
        Checks.due("refused ones are none", x.ran(0), SealKeeper.NONE);
        x.run(0, 0);
        Checks.due("one that was spent at once", x.ran(0), 0);
        x.run(0, 9);
        Checks.due("the latest", x.ran(0), 1);
        Checks.due("the last that is taken", x.ran(7), 0);
        for (int wrong : new int[] {-1, 8, LEAST, MOST}) {
            Checks.due("ran(" + wrong + ")", x.ran(wrong), SealKeeper.OUTSIDE);
        }
        Checks.read(x, "on 8{}");
        Checks.due("a text with a fault", x.ran(0), 1);
        Checks.read(x, "on 0{say 1;}");
        for (int what = 0; what < 8; what++) {
            Checks.due("a new program: ran(" + what + ")", x.ran(what), SealKeeper.NONE);
        }
    }
}
