/** Promises 14 to 17 and section 5: a test for each sentence on what is told AHEAD, its PAIRS and MANY. */
public final class EdgesOfAheadTest {
    private static final int LEAST = Integer.MIN_VALUE, MOST = Integer.MAX_VALUE;
    private static final int STATE = SealKeeper.STATE, OUTSIDE = SealKeeper.OUTSIDE, NONE = SealKeeper.NONE;

    public static void main(String[] args) {
        ofPairs();
        ofBlocks();
        ofSteps();
        ofAhead();
        ofWalkedAndTold();
        ofPair();
        Checks.end();
    }

    private static void ofPairs() {
        Sentence.test("14", "Of a program without keep, under and later", EdgesOfAheadTest::programsThatAreForetold);
        Sentence.test("14", "with RULES as they are", EdgesOfAheadTest::rulesAsTheyAre);
        Sentence.test("14", "whatever the BITS", EdgesOfAheadTest::whateverTheBits);
        Sentence.test("14", "by the least sets for which this holds:", EdgesOfAheadTest::leastSets);
        Sentence.test("14", "A PAIR is a METHOD and, for each RIGHT, by whom it would be refused",
                EdgesOfAheadTest::differentPairs);
        Sentence.test("14", "The PAIR of the METHOD asked for comes, with the STACK of its ENTRY alone.",
                EdgesOfAheadTest::entryAlone);
        Sentence.test("14", "The PAIRS that come are at most 300, else it is MANY.", EdgesOfAheadTest::atMost300);
    }

    private static void ofBlocks() {
        Sentence.test("15", "steps one behind the other, as long as the one ahead can END;", EdgesOfAheadTest::oneBehindTheOther);
        Sentence.test("16", "a block can END if its last step can, or it has none;", EdgesOfAheadTest::blocksThatCanEnd);
        Sentence.test("16", "it can FAIL, or go BACK, if a step that is walked can.", EdgesOfAheadTest::blocksThatCanFail);
    }

    private static void ofSteps() {
        Sentence.test("15", "ask: it can END if it would be granted, else it can FAIL, and is OPEN.", EdgesOfAheadTest::asks);
        Sentence.test("14", "call: the PAIR of that METHOD, its ENTRY being on the STACK then, comes;",
                EdgesOfAheadTest::callsThatCome);
        Sentence.test("16", "it can END if that can END or go BACK, and FAIL if that can.", EdgesOfAheadTest::callsThatEnd);
        Sentence.test("15", "lend, cut: as their block, walked with their ENTRY on the STACK.", EdgesOfAheadTest::lendsAndCuts);
        Sentence.test("15", "try: its first block is walked; if that can FAIL the second one, too;",
                EdgesOfAheadTest::triesWalked);
        Sentence.test("16", "it can END, go BACK if one of those walked can, and FAIL if the second one is walked and can.",
                EdgesOfAheadTest::triesThatEnd);
        Sentence.test("15", "loop: 0 TIMES: it can END; else as its block.", EdgesOfAheadTest::loops);
        Sentence.test("15", "if: as the block that would be done.", EdgesOfAheadTest::ifs);
        Sentence.test("15", "either: both are walked; it can what one of them can.", EdgesOfAheadTest::eithers);
        Sentence.test("15", "say can END. back can go BACK alone.", EdgesOfAheadTest::saysAndBacks);
    }

    private static void ofAhead() {
        Sentence.test("14", "how many PAIRS come;", EdgesOfAheadTest::howManyPairs);
        Sentence.test("14", "this is KEPT till the next program() without a FAULT, or ahead().", EdgesOfAheadTest::whatIsKept);
        Sentence.test("14", "STATE; OUTSIDE: method;", EdgesOfAheadTest::aheadOutside);
        Sentence.test("14", "MANY: then nothing is kept.", EdgesOfAheadTest::manyKeepsNothing);
    }

    private static void ofWalkedAndTold() {
        Sentence.test("15", "whether a STEP was walked (what 0), is OPEN (1: an ask that would be refused with some PAIR): 1, 0.",
                EdgesOfAheadTest::walkedOrOpen);
        Sentence.test("15", "STATE: nothing is kept; OUTSIDE: what, step.", EdgesOfAheadTest::walkedOutside);
        Sentence.test("16", "what 0 whether the METHOD asked for can END or go BACK, 1 whether it can FAIL",
                EdgesOfAheadTest::toldEnds);
        Sentence.test("16", "2 how many steps were walked, 3 how many asks are OPEN", EdgesOfAheadTest::toldSteps);
        Sentence.test("16", "4 how many METHODS came: of PAIRS that came those of different METHODS.",
                EdgesOfAheadTest::toldMethods);
        Sentence.test("16", "STATE: nothing is kept; OUTSIDE.", EdgesOfAheadTest::toldOutside);
    }

    private static void ofPair() {
        Sentence.test("17", "By whom a RIGHT would be refused with the PAIR of a METHOD", EdgesOfAheadTest::byWhom);
        Sentence.test("17", "that came as the k-th of its METHOD, in the order of the PAIRS' rights:", EdgesOfAheadTest::theKth);
        Sentence.test("17", "these are compared KIND by KIND, LEVEL by LEVEL", EdgesOfAheadTest::kindByKindLevelByLevel);
        Sentence.test("17", "one granted ahead of one refused, of these the lesser OWNER ahead.",
                EdgesOfAheadTest::grantedAndLesserAhead);
        Sentence.test("17", "NONE: it would be granted, or there is no such PAIR.", EdgesOfAheadTest::pairNone);
        Sentence.test("17", "STATE: nothing is kept; OUTSIDE: method, k below 0, KIND, LEVEL.", EdgesOfAheadTest::pairOutside);
    }

    // ---- helpers

    private static int countOf(String marks, char mark) {
        return (int) marks.chars().filter(c -> c == mark).count();
    }

    /** The marks have a 1 for each STEP that is walked, a 2 if it is OPEN, too; can has E (END or BACK) and F (FAIL). */
    private static void dueTold(SealKeeper x, String what, String marks, String can, int methods) {
        for (int s = 0; s < marks.length(); s++) {
            Checks.due(what + ": walked(" + s + ", 0)", x.walked(s, 0), marks.charAt(s) == '0' ? 0 : 1);
            Checks.due(what + ": walked(" + s + ", 1)", x.walked(s, 1), marks.charAt(s) == '2' ? 1 : 0);
        }
        Checks.due(what + ": told(0)", x.told(0), can.contains("E") ? 1 : 0);
        Checks.due(what + ": told(1)", x.told(1), can.contains("F") ? 1 : 0);
        Checks.due(what + ": told(2)", x.told(2), marks.length() - countOf(marks, '0'));
        Checks.due(what + ": told(3)", x.told(3), countOf(marks, '2'));
        Checks.due(what + ": told(4)", x.told(4), methods);
        Checks.due(what + ": as many steps", x.about(1), marks.length());
    }

    /** Of METHOD 0, all METHODS that come having one PAIR. */
    private static void due(SealKeeper x, String what, String marks, String can, int methods) {
        Checks.due(what + ": ahead(0)", x.ahead(0), methods);
        dueTold(x, what, marks, can, methods);
    }

    private static void dueNothingKept(SealKeeper x, String what) {
        for (int i = 0; i < 5; i++) {
            Checks.due(what + ": told(" + i + ")", x.told(i), STATE);
        }
        Checks.due(what + ": walked(0, 0)", x.walked(0, 0), STATE);
        Checks.due(what + ": walked(0, 1)", x.walked(0, 1), STATE);
        Checks.due(what + ": pair(0, 0, 0, 0)", x.pair(0, 0, 0, 0), STATE);
    }

    // ---- pairs

    private static void programsThatAreForetold() {
        for (String step : new String[] {"keep 0;", "under 3{}", "later 0;"}) {
            for (String text : new String[] {"on 0{" + step + "}", "on 0{}on 0{" + step + "}", "on 0{loop 0{" + step + "}}",
                "on 0{back;" + step + "}", Texts.methods(19) + Texts.nested(11, step)}) {
                SealKeeper x = Checks.generous(text);
                Checks.due("ahead(0) of " + text, x.ahead(0), STATE);
                dueNothingKept(x, text);
            }
        }
        for (String text : new String[] {"on 0{keep 0;under 0{}}", "on 0{keep 0;later 0;}", "on 0{under 0{later 0;}}",
            "on 0{keep 0;keep 1;under 0{}later 0;}", "on 0{keep 0;under 0{under 1{later 0;}}}",
                    "on 0{later 0;later 0;keep 0;under 0{}}"}) {
            Checks.due("ahead(0) of " + text, Checks.generous(text).ahead(0), STATE);
        }
        SealKeeper x = Checks.generous("on 0{ask 0 0;call 0;lend 0 0{}cut 0{}try{}else{}loop 0{}say 0;if 0 0{}else{}either{}or{}back;}");
        Checks.due("all others", x.ahead(0), 1);
    }

    private static void rulesAsTheyAre() {
        SealKeeper x = Checks.keeper("on 0{ask 0 5;say 1;}");
        for (int rule = -1; rule < 10; rule++) {
            x.rule(0, 0, rule);
            due(x, "rule " + rule, rule >= 5 ? "11" : "20", rule >= 5 ? "E" : "F", 1);
        }
        x.rule(0, 0, 4);
        dueTold(x, "what was told stays", "11", "E", 1);
        x.rule(0, 0, 10);
        due(x, "a refused rule", "20", "F", 1);
    }

    private static void whateverTheBits() {
        SealKeeper x = Checks.without("on 0{either{ask 0 0;say 1;}or{say 2;}say 3;}", 0);
        due(x, "no bits", "12011", "EF", 1);
        x.bits(0, 32);
        due(x, "all are 0", "12011", "EF", 1);
        x.forget();
        x.bits(-1, 32);
        due(x, "all are 1", "12011", "EF", 1);
    }

    private static void leastSets() {
        due(Checks.without("on 0{call 0;}"), "itself alone", "1", "", 1);
        due(Checks.without("on 0{say 1;call 1;say 2;}on 0{call 0;say 3;}"), "each the other", "11010", "", 2);
        due(Checks.without("on 0{either{call 1;say 1;}or{}}on 0{call 0;say 2;}"), "with a way out", "11111", "E", 2);
        due(Checks.without("on 0{either{call 0;ask 0 0;}or{say 1;}}", 0), "what it can by itself counts in it", "1121", "EF", 1);
        due(Checks.without("on 0{either{call 0;say 1;}or{ask 0 0;}say 2;}", 0), "it can fail alone", "11020", "F", 1);
        due(Checks.without("on 0{either{call 0;say 1;}or{back;}say 2;}"), "it can go back", "11111", "E", 1);
        due(Checks.without("on 0{try{call 1;say 1;}else{say 2;}say 3;}on 0{call 1;}"), "a try does not help", "110001", "", 2);
        due(Checks.without("on 0{try{call 0;}else{say 1;}either{say 2;}or{ask 0 0;}}", 0), "a way out behind itself alone",
                "110000", "", 1);
        StringBuilder chain = new StringBuilder();
        for (int m = 0; m < 19; m++) {
            chain.append("on 0{call ").append(m + 1).append(";say1;}");
        }
        due(Checks.without(chain + "on 0{}"), "through twenty methods", "1".repeat(38), "E", 20);
        due(Checks.without(chain + "on 0{call 0;}"), "through twenty methods, and round", "10".repeat(19) + "1", "", 20);
        due(Checks.without(chain + "on 0{either{call 0;}or{}}"), "round, with a way out at the end", "1".repeat(40), "E", 20);
        SealKeeper x = Checks.without(Texts.crowdOf(6, 0, 0));
        Checks.due("64 pairs that call two more each, one behind the other", x.ahead(0), 192);
        Checks.due("the last of them", x.pair(2, 63, 5, 0), 0);
        x = Checks.without(Texts.crowdOf(5, 0, 0, 0, 0, 0, 0, 0, 0));
        Checks.due("32 pairs that call eight more each, one behind the other", x.ahead(0), 288);
        Checks.due("the last of them", x.pair(8, 31, 4, 0), 0);
    }

    private static void differentPairs() {
        String twice = "on 0{call 1;call 2;}on 1{call 2;}on 2{}";
        SealKeeper x = Checks.without(twice);
        Checks.due("other stacks, the same rights", x.ahead(0), 3);
        x.rule(1, 3, 8);
        Checks.due("a level of a kind is another", x.ahead(0), 4);
        x.rule(1, 3, 9);
        x.rule(1, 7, -1);
        Checks.due("a kind is another", x.ahead(0), 4);
        x.rule(0, 7, -1);
        Checks.due("refused by another", x.ahead(0), 4);
        x.rule(2, 7, -1);
        Checks.due("refused by itself in both", x.ahead(0), 3);
        x = Checks.without("on 0{cut 0{call 2;}call 1;}on 1{cut 0{call 2;}}on 2{}");
        Checks.due("cut by others", x.ahead(0), 4);
        x = Checks.without("on 0{cut 0{call 1;}cut 0{cut 0{call 1;}}cut 0{lend 0 0{cut 0{call 1;}}}}on 2{}");
        Checks.due("cut in other ways", x.ahead(0), 2);
        x = Checks.without("on 0{lend 0 0{call 1;}lend 0 9{call 1;}call 1;}on 2{}");
        Checks.due("lending what all have", x.ahead(0), 2);
        x = Checks.without("on 0{cut 0{call 1;}call 1;lend 0 4{call 1;}cut 0{call 1;}call 1;}on 2{}", 2);
        Checks.due("what it lacks itself makes no difference", x.ahead(0), 2);
        x = Checks.without("on 0{cut 0{lend 0 0{call 1;}lend 0 9{call 1;}lend 0 8{call 1;}call 1;}}on 2{}");
        Checks.due("lending what was cut", x.ahead(0), 5);
    }

    private static void entryAlone() {
        SealKeeper x = Checks.without("on 0{call 1;}on 1{ask 0 0;}", 0);
        Checks.due("ahead(0)", x.ahead(0), 2);
        dueTold(x, "called", "12", "F", 2);
        Checks.due("called", x.pair(1, 0, 0, 0), 0);
        Checks.due("ahead(1)", x.ahead(1), 1);
        dueTold(x, "asked for", "01", "E", 1);
        Checks.due("asked for", x.pair(1, 0, 0, 0), NONE);
        x.rule(1, 0, 6);
        x.ahead(1);
        Checks.due("its own entry", x.pair(1, 0, 0, 6), NONE);
        Checks.due("its own entry", x.pair(1, 0, 0, 7), 1);
        x = Checks.without("on 0{cut 0{call 0;}}");
        Checks.due("it can come with others, too", x.ahead(0), 2);
    }

    private static void atMost300() {
        SealKeeper x = Checks.generous(Texts.crowd(3, 5, 6));
        Checks.due("256 + 32 + 8 + 4", x.ahead(0), 300);
        Checks.due("that is kept", x.told(4), 4);
        x = Checks.generous(Texts.crowd(3, 5, 6, 8));
        Checks.due("256 + 32 + 8 + 4 + 1", x.ahead(0), SealKeeper.MANY);
        x = Checks.generous(Texts.crowd(3, 5, 7));
        Checks.due("256 + 32 + 8 + 2", x.ahead(0), 298);
        x = Checks.generous(Texts.crowd(3, 5, 7, 8));
        Checks.due("256 + 32 + 8 + 2 + 1", x.ahead(0), 299);
        x = Checks.generous(Texts.crowd(3, 5, 7, 8, 8));
        Checks.due("256 + 32 + 8 + 2 + 1 + 1", x.ahead(0), 300);
        x = Checks.generous(Texts.crowd(3, 5, 7, 8, 8, 8));
        Checks.due("256 + 32 + 8 + 2 + 1 + 1 + 1", x.ahead(0), SealKeeper.MANY);
        x = Checks.generous(Texts.crowd(0));
        Checks.due("256 + 256", x.ahead(0), SealKeeper.MANY);
        x = Checks.generous(Texts.crowd());
        Checks.due("256", x.ahead(0), 256);
    }

    // ---- blocks

    private static void oneBehindTheOther() {
        String text = "on 0{say 1;ask 0 0;say 2;call 1;}on 0{say 3;}";
        due(Checks.without(text), "all", "11111", "E", 2);
        due(Checks.without(text, 0), "up to an ask", "12000", "F", 1);
        due(Checks.without("on 0{call 1;say 1;}on 0{call 1;}"), "up to a call", "101", "", 2);
        due(Checks.without("on 0{cut 1{back;say 1;}say 2;}"), "up to a back", "1100", "E", 1);
        due(Checks.without("on 0{cut 0{ask 0 0;}say 2;}"), "up to a cut", "120", "F", 1);
        due(Checks.without("on 0{loop 1{ask 0 0;say 1;}say 2;}", 0), "up to a loop", "1200", "F", 1);
        due(Checks.without("on 0{either{ask 0 0;}or{back;}say 2;}", 0), "up to an either", "1210", "EF", 1);
        due(Checks.without("on 0{" + "say1;".repeat(199) + "ask0 0;}", 0), "all 200", "1".repeat(199) + "2", "F", 1);
    }

    private static void blocksThatCanEnd() {
        due(Checks.without("on 0{}"), "no step", "", "E", 1);
        due(Checks.without("on 0{say 1;ask 0 0;}", 0), "the last can not", "12", "F", 1);
        due(Checks.without("on 0{ask 0 0;say 1;}", 0), "the last is not walked", "20", "F", 1);
        due(Checks.without("on 0{either{ask 0 0;}or{}say 1;}", 0), "the last can", "121", "EF", 1);
        due(Checks.without("on 0{lend 0 0{}cut 0{}loop 9{}try{}else{}either{}or{}if 0 0{}else{}say 1;}"), "empty blocks",
                "1111111", "E", 1);
        due(Checks.without("on 0{call 1;say 1;}on 0{}"), "an empty method", "11", "E", 2);
    }

    private static void blocksThatCanFail() {
        due(Checks.without("on 0{either{ask 0 0;}or{}either{back;}or{}say 1;}", 0), "fail, back and end", "12111", "EF", 1);
        due(Checks.without("on 0{either{ask 0 0;}or{}call 1;}on 0{call 1;}", 0), "fail alone", "1211", "F", 2);
        due(Checks.without("on 0{either{back;}or{}call 1;}on 0{call 1;}"), "back alone", "1111", "E", 2);
        due(Checks.without("on 0{back;ask 0 0;}", 0), "what is not walked can not", "10", "E", 1);
        due(Checks.without("on 0{ask 0 0;back;}", 0), "what is not walked can not", "20", "F", 1);
        due(Checks.without(Texts.nested(12, "ask 1 0;")), "within twelve blocks", "1".repeat(11) + "2", "F", 1);
    }

    // ---- steps

    private static void asks() {
        for (int level = 0; level < 10; level++) {
            SealKeeper x = Checks.keeper("on 7{ask 7 " + level + ";say 1;}");
            x.rule(7, 7, level);
            due(x, "just the level", "11", "E", 1);
            x.rule(7, 7, level - 1);
            due(x, "one below", "20", "F", 1);
        }
        SealKeeper x = Checks.without("on 0{call 1;cut 0{call 1;}}on 0{try{ask 0 0;}else{}}");
        Checks.due("ahead(0)", x.ahead(0), 3);
        dueTold(x, "with some pair", "11112", "E", 2);
    }

    private static void callsThatCome() {
        SealKeeper x = Checks.without("on 0{call 1;}on 1{call 2;}on 2{}on 3{call 0;}", 1);
        Checks.due("ahead(0)", x.ahead(0), 3);
        Checks.due("the caller", x.pair(0, 0, 0, 0), NONE);
        Checks.due("its own entry", x.pair(1, 0, 0, 0), 1);
        Checks.due("the entries below", x.pair(2, 0, 0, 0), 1);
        Checks.due("one that is not called", x.pair(3, 0, 0, 0), NONE);
        Checks.due("methods", x.told(4), 3);
        x = Checks.without("on 0{ask 0 0;call 1;}on 1{}", 0);
        due(x, "a call that is not walked", "20", "F", 1);
        x = Checks.without("on 0{loop 0{call 1;}if 0 0{}else{call 1;}try{}else{call 1;}back;call 1;}on 1{}");
        due(x, "calls that are not walked", "10101010", "E", 1);
        x = Checks.without(Texts.nested(12, "call 1;") + "on 0{}");
        Checks.due("in the twelfth block", x.ahead(0), 2);
        Checks.due("its pair", x.pair(1, 0, 1, 9), 0);
    }

    private static void callsThatEnd() {
        due(Checks.without("on 0{call 1;say 1;}on 0{say 2;}"), "it ends", "111", "E", 2);
        due(Checks.without("on 0{call 1;say 1;}on 0{back;}"), "it goes back", "111", "E", 2);
        due(Checks.without("on 0{call 1;say 1;}on 0{ask 0 0;}", 0), "it fails", "102", "F", 2);
        due(Checks.without("on 0{call 1;say 1;}on 0{either{back;}or{ask 0 0;}}", 0), "it goes back or fails", "11112", "EF", 2);
        due(Checks.without("on 0{call 1;say 1;}on 0{call 1;}"), "neither", "101", "", 2);
        due(Checks.without("on 0{call 1;ask 0 0;}on 0{back;}", 0), "its back is not the caller's", "121", "F", 2);
    }

    private static void lendsAndCuts() {
        for (int lent = 0; lent < 10; lent++) {
            for (int asked = 0; asked < 10; asked++) {
                SealKeeper x = Checks.keeper("on 0{call 1;}on 1{lend 2 " + lent + "{ask 2 " + asked + ";say 1;}}");
                x.rule(1, 2, 9);
                due(x, "lent " + lent + ", asked " + asked, lent >= asked ? "1111" : "1120", lent >= asked ? "E" : "F", 2);
                x.rule(1, 2, lent - 1);
                x.ahead(0);
                Checks.due("who lends one less", x.walked(2, 1), asked <= lent - 1 ? 0 : 1);
            }
        }
        for (int cut = 0; cut < 8; cut++) {
            for (int asked = 0; asked < 8; asked++) {
                SealKeeper x = Checks.keeper("on 0{cut " + cut + "{ask " + asked + " 0;ask " + asked + " 9;}ask " + asked
                        + " 9;}");
                x.rule(0, asked, 9);
                due(x, "cut " + cut + ", asked " + asked, cut == asked ? "1200" : "1111", cut == asked ? "F" : "E", 1);
            }
        }
        due(Checks.without("on 0{cut 0{}lend 0 0{}ask 0 9;}"), "behind the blocks", "111", "E", 1);
        due(Checks.without("on 0{cut 0{lend 0 4{ask 0 4;cut 0{lend 0 3{ask 0 3;ask 0 4;}}}}}"), "within one another", "1111112",
                "F", 1);
        due(Checks.without("on 0{cut 0{back;}say 1;}"), "they go back", "110", "E", 1);
        due(Checks.without("on 0{call 1;}on 1{lend 0 5{lend 0 3{either{ask 0 5;}or{ask 0 6;}}}}", 0),
                "the lower lend is looked at", "111112", "EF", 2);
    }

    private static void triesWalked() {
        due(Checks.without("on 0{try{}else{say 1;}say 2;}"), "an empty first block", "101", "E", 1);
        due(Checks.without("on 0{try{ask 0 0;say 1;}else{say 2;}say 3;}"), "it can not fail", "11101", "E", 1);
        due(Checks.without("on 0{try{ask 0 0;say 1;}else{say 2;}say 3;}", 0), "it can fail", "12011", "E", 1);
        due(Checks.without("on 0{try{call 1;}else{say 2;}}on 0{ask 0 0;}", 0), "in what it calls", "1112", "E", 2);
        due(Checks.without("on 0{try{back;}else{say 2;}say 3;}"), "back is no failure", "1100", "E", 1);
        due(Checks.without("on 0{try{call 0;}else{say 2;}say 3;}"), "not ending is no failure", "1100", "", 1);
        due(Checks.without("on 0{try{if 0 0{}else{say 1;}}else{say 2;}}", 0), "an if is no failure", "1110", "E", 1);
        due(Checks.without("on 0{cut 0{try{cut 1{ask 1 0;}}else{ask 1 0;ask 0 0;}}}"), "with the stack around it", "1112"
                + "12", "F", 1);
    }

    private static void triesThatEnd() {
        due(Checks.without("on 0{try{ask 0 0;}else{}say 1;}", 0), "the second ends", "121", "E", 1);
        due(Checks.without("on 0{try{ask 0 0;}else{ask 0 1;}say 1;}", 0), "the second fails", "1220", "F", 1);
        due(Checks.without("on 0{try{ask 0 0;}else{back;}say 1;}", 0), "the second goes back", "1210", "E", 1);
        due(Checks.without("on 0{try{either{}or{ask 0 0;}}else{call 1;}say 1;}on 0{call 1;}", 0), "the first ends", "112111",
                "E", 2);
        due(Checks.without("on 0{try{either{back;}or{ask 0 0;}}else{ask 0 1;}say 1;}", 0),
                "the first goes back, the second fails", "111220", "EF", 1);
        due(Checks.without("on 0{try{either{}or{ask 0 0;}}else{ask 0 1;}say 1;}", 0), "the first ends, the second fails",
                "11221", "EF", 1);
        due(Checks.without("on 0{try{say 1;}else{ask 0 0;}}", 0), "the second is not walked", "110", "E", 1);
        due(Checks.without("on 0{try{try{ask 0 0;}else{ask 0 1;}}else{say 1;}}", 0), "one around it", "11221", "E", 1);
    }

    private static void loops() {
        for (int times : new int[] {1, 2, 99}) {
            due(Checks.without("on 0{loop " + times + "{say 1;}say 2;}"), "its block ends", "111", "E", 1);
            due(Checks.without("on 0{loop " + times + "{ask 0 0;}say 2;}", 0), "its block fails", "120", "F", 1);
            due(Checks.without("on 0{loop " + times + "{back;}say 2;}"), "its block goes back", "110", "E", 1);
            due(Checks.without("on 0{loop " + times + "{call 0;}say 2;}"), "its block does nothing", "110", "", 1);
            due(Checks.without("on 0{loop " + times + "{}say 2;}"), "its block is empty", "11", "E", 1);
        }
        due(Checks.without("on 0{loop 0{ask 0 0;}say 2;}", 0), "0 times a failure", "101", "E", 1);
        due(Checks.without("on 0{loop 0{back;}ask 0 0;}", 0), "0 times a back", "102", "F", 1);
        due(Checks.without("on 0{loop 0{call 1;}}on 0{}"), "0 times a call", "10", "E", 1);
        due(Checks.without("on 0{loop 000{call 1;}}on 0{}"), "000 times a call", "10", "E", 1);
    }

    private static void ifs() {
        SealKeeper x = Checks.keeper("on 0{if 0 5{say 1;}else{ask 1 0;}say 3;}");
        for (int rule = -1; rule < 10; rule++) {
            x.rule(0, 0, rule);
            due(x, "rule " + rule, rule >= 5 ? "1101" : "1020", rule >= 5 ? "E" : "F", 1);
        }
        due(Checks.without("on 0{if 0 0{back;}else{}say 3;}"), "the first goes back", "110", "E", 1);
        due(Checks.without("on 0{if 0 0{back;}else{}say 3;}", 0), "the second is empty", "101", "E", 1);
        x = Checks.without("on 0{call 1;cut 0{call 1;}}on 0{if 0 0{say 1;}else{say 2;}}");
        Checks.due("ahead(0)", x.ahead(0), 3);
        dueTold(x, "with a pair each", "111111", "E", 2);
    }

    private static void eithers() {
        due(Checks.without("on 0{either{}or{}say 1;}"), "both are empty", "11", "E", 1);
        due(Checks.without("on 0{either{ask 0 0;}or{}say 1;}", 0), "the first fails", "121", "EF", 1);
        due(Checks.without("on 0{either{}or{ask 0 0;}say 1;}", 0), "the second fails", "121", "EF", 1);
        due(Checks.without("on 0{either{ask 0 0;}or{ask 0 1;}say 1;}", 0), "both fail", "1220", "F", 1);
        due(Checks.without("on 0{either{back;}or{back;}say 1;}"), "both go back", "1110", "E", 1);
        due(Checks.without("on 0{either{call 0;}or{back;}say 1;}"), "one goes back, one is itself", "1111", "E", 1);
        due(Checks.without("on 0{either{cut 0{ask 0 0;}}or{ask 0 0;}say 1;}"), "each with the stack around it", "11211", "EF", 1);
    }

    private static void saysAndBacks() {
        due(Checks.without("on 0{say 0;say 999;}"), "say", "11", "E", 1);
        due(Checks.without("on 0{back;}"), "back", "1", "E", 1);
        due(Checks.without("on 0{back;say 1;}"), "back can not end", "10", "E", 1);
        due(Checks.without("on 0{call 1;say 1;}on 0{back;}"), "back of one that is called", "111", "E", 2);
        due(Checks.without("on 0{try{back;}else{say 1;}}"), "back can not fail", "110", "E", 1);
    }

    // ---- ahead

    private static void howManyPairs() {
        for (int methods = 1; methods <= 20; methods++) {
            StringBuilder text = new StringBuilder();
            for (int m = 0; m < methods; m++) {
                text.append("on 0{").append(m + 1 < methods ? "call " + (m + 1) + ";" : "").append("}");
            }
            SealKeeper x = Checks.keeper(text.toString());
            Checks.due("of the first", x.ahead(0), methods);
            Checks.due("of the last", x.ahead(methods - 1), 1);
        }
        SealKeeper x = Checks.without("on 0{cut 0{call 1;}call 1;cut 0{call 1;}call 1;}on 0{}");
        Checks.due("those that come again count once", x.ahead(0), 3);
    }

    private static void whatIsKept() {
        SealKeeper x = Checks.without("on 0{ask 0 0;call 1;}on 0{say 1;}");
        Checks.due("ahead(0)", x.ahead(0), 2);
        x.rule(0, 0, -1);
        dueTold(x, "rule", "111", "E", 2);
        Checks.due("rule: pair", x.pair(0, 0, 0, 0), NONE);
        x.bits(1, 1);
        x.forget();
        x.run(0, 9);
        dueTold(x, "bits, forget and run", "111", "E", 2);
        Checks.tape(x, "on 8{}");
        dueTold(x, "feed and trim", "111", "E", 2);
        Checks.due("a fault", x.program(), -103);
        dueTold(x, "a program with a fault", "111", "E", 2);
        for (int wrong : new int[] {-1, 2, LEAST, MOST}) {
            Checks.due("ahead(" + wrong + ")", x.ahead(wrong), OUTSIDE);
        }
        dueTold(x, "an ahead that is refused", "111", "E", 2);
        Checks.due("ahead(1)", x.ahead(1), 1);
        dueTold(x, "the next ahead", "001", "E", 1);
        Checks.due("the next ahead: a method that came before", x.pair(0, 0, 0, 0), NONE);
        Checks.due("the next ahead: its pair", x.pair(1, 0, 0, 0), 0);
        Checks.due("ahead(0)", x.ahead(0), 1);
        dueTold(x, "the one behind it", "200", "F", 1);
        Checks.read(x, "on 0{ask 0 0;call 1;}on 0{say 1;}");
        dueNothingKept(x, "a program without a fault");
        Checks.due("ahead(0)", x.ahead(0), 1);
        Checks.read(x, "on 0{keep 0;}");
        dueNothingKept(x, "a program with keep");
        Checks.due("ahead(0)", x.ahead(0), STATE);
        dueNothingKept(x, "still");
    }

    private static void aheadOutside() {
        Checks.due("no program", new SealKeeper().ahead(0), STATE);
        for (int methods : new int[] {1, 20}) {
            SealKeeper x = Checks.keeper(Texts.methods(methods));
            for (int wrong : new int[] {-1, methods, 99, LEAST, MOST}) {
                Checks.due("ahead(" + wrong + ")", x.ahead(wrong), OUTSIDE);
                dueNothingKept(x, "ahead(" + wrong + ")");
            }
            Checks.due("the first", x.ahead(0), 1);
            Checks.due("the last", x.ahead(methods - 1), 1);
        }
    }

    private static void manyKeepsNothing() {
        SealKeeper x = Checks.generous(Texts.crowd(3, 5, 6, 8));
        Checks.due("many", x.ahead(0), SealKeeper.MANY);
        dueNothingKept(x, "many at first");
        Checks.due("another method", x.ahead(4), 1);
        Checks.due("that is kept", x.told(0), 1);
        Checks.due("many again", x.ahead(0), SealKeeper.MANY);
        dueNothingKept(x, "what was kept before");
        for (int kind = 0; kind < 8; kind++) {
            x.rule(0, kind, -1);
        }
        Checks.due("with other rules", x.ahead(0), 1 + 4);
        Checks.due("that is kept", x.told(4), 5);
    }

    // ---- walked and told

    private static void walkedOrOpen() {
        SealKeeper x = Checks.without("on 0{" + "say1;".repeat(198) + "cut0{ask0 0;}}");
        x.ahead(0);
        Checks.due("the first", x.walked(0, 0), 1);
        Checks.due("the first is no ask", x.walked(0, 1), 0);
        Checks.due("the last", x.walked(199, 0), 1);
        Checks.due("the last is open", x.walked(199, 1), 1);
        due(Checks.without("on 0{if 0 0{}else{}try{cut 0{ask 0 0;}}else{say 1;}back;ask 0 0;}", 0), "others are not open",
                "11121" + "10", "E", 1);
        x = Checks.without("on 0{call 2;call 1;}on 1{try{call 2;}else{}}on 2{ask 0 0;}", 1);
        Checks.due("ahead(0)", x.ahead(0), 4);
        dueTold(x, "granted with one pair, refused with another", "11112", "E", 3);
        Checks.due("ahead(2)", x.ahead(2), 1);
        dueTold(x, "granted with all", "00001", "E", 1);
    }

    private static void walkedOutside() {
        dueNothingKept(new SealKeeper(), "new");
        for (int steps : new int[] {0, 1, 200}) {
            SealKeeper x = Checks.keeper("on 0{" + "say1;".repeat(steps) + "}");
            dueNothingKept(x, "no ahead");
            x.ahead(0);
            for (int wrong : new int[] {-1, steps, 201, LEAST, MOST}) {
                Checks.due("walked(" + wrong + ", 0)", x.walked(wrong, 0), OUTSIDE);
                Checks.due("walked(" + wrong + ", 1)", x.walked(wrong, 1), OUTSIDE);
            }
            for (int wrong : new int[] {-1, 2, LEAST, MOST}) {
                Checks.due("walked(0, " + wrong + ")", x.walked(0, wrong), OUTSIDE);
            }
            if (steps > 0) {
                Checks.due("the last", x.walked(steps - 1, 0), 1);
                Checks.due("the last what", x.walked(steps - 1, 1), 0);
            }
        }
    }

    private static void toldEnds() {
        due(Checks.without("on 0{say 1;}"), "end", "1", "E", 1);
        due(Checks.without("on 0{back;}"), "back", "1", "E", 1);
        due(Checks.without("on 0{either{back;}or{}}"), "end and back", "11", "E", 1);
        due(Checks.without("on 0{ask 0 0;}", 0), "fail", "2", "F", 1);
        due(Checks.without("on 0{call 0;}"), "none", "1", "", 1);
        due(Checks.without("on 0{either{back;}or{ask 0 0;}}", 0), "back and fail", "112", "EF", 1);
        due(Checks.without("on 0{either{}or{ask 0 0;}}", 0), "end and fail", "12", "EF", 1);
        SealKeeper x = Checks.without("on 0{ask 0 0;}on 1{}", 0);
        x.ahead(1);
        dueTold(x, "of the method asked for", "0", "E", 1);
        x = Checks.without("on 0{either{try{cut 0{call 0;}}else{}}or{}ask 0 0;}");
        Checks.due("ahead(0)", x.ahead(0), 2);
        dueTold(x, "its other pair can fail", "11112", "E", 1);
    }

    private static void toldSteps() {
        due(Checks.without("on 0{}on 0{say 1;}"), "none of one", "0", "E", 1);
        due(Checks.without("on 0{" + "say1;".repeat(200) + "}"), "all of 200", "1".repeat(200), "E", 1);
        due(Checks.without("on 0{" + "either{ask0 0;}or{}".repeat(60) + "}", 0), "60 open ones", "12".repeat(60), "EF", 1);
        SealKeeper x = Checks.without("on 0{cut 0{call 1;}cut 1{call 1;}call 1;}on 0{try{ask 0 0;ask 1 0;}else{}}");
        Checks.due("ahead(0)", x.ahead(0), 4);
        dueTold(x, "each counts once", "11111" + "122", "E", 2);
    }

    private static void toldMethods() {
        SealKeeper x = Checks.without("on 0{cut 0{call 1;}cut 1{call 1;}call 1;}on 0{}on 0{}");
        Checks.due("ahead(0)", x.ahead(0), 4);
        Checks.due("two", x.told(4), 2);
        Checks.due("ahead(2)", x.ahead(2), 1);
        Checks.due("one", x.told(4), 1);
        StringBuilder all = new StringBuilder("on 0{");
        for (int m = 1; m < 20; m++) {
            all.append("call ").append(m).append(";");
        }
        x = Checks.without(all + "}" + Texts.methods(19));
        Checks.due("ahead(0)", x.ahead(0), 20);
        Checks.due("twenty", x.told(4), 20);
        x = Checks.generous(Texts.crowd(3, 5, 6));
        x.ahead(0);
        Checks.due("four of 300 pairs", x.told(4), 4);
    }

    private static void toldOutside() {
        SealKeeper x = Checks.keeper("on 0{}");
        Checks.due("nothing is kept", x.told(0), STATE);
        Checks.due("nothing is kept", x.told(4), STATE);
        x.ahead(0);
        Checks.due("the first", x.told(0), 1);
        Checks.due("the last", x.told(4), 1);
        for (int wrong : new int[] {-1, 5, LEAST, MOST}) {
            Checks.due("told(" + wrong + ")", x.told(wrong), OUTSIDE);
        }
    }

    // ---- pair

    private static void byWhom() {
        for (int owner = 0; owner < 8; owner++) {
            int kind = 7 - owner;
            SealKeeper x = Checks.generous("on " + owner + "{}");
            for (int rule = -1; rule < 10; rule += 2) {
                x.rule(owner, kind, rule);
                x.ahead(0);
                for (int level = 0; level < 10; level++) {
                    Checks.due("rule " + rule + ", level " + level, x.pair(0, 0, kind, level), rule >= level ? NONE : owner);
                }
                Checks.due("another kind", x.pair(0, 0, owner, 9), NONE);
            }
        }
        SealKeeper x = Checks.generous("on 1{call 1;}on 2{call 2;}on 3{}");
        x.rule(1, 5, 2);
        x.rule(2, 5, 5);
        x.rule(3, 5, 7);
        x.ahead(0);
        int[] due = {-1, -1, -1, 1, 1, 1, 2, 2, 3, 3};
        for (int level = 0; level < 10; level++) {
            Checks.due("the latest who lacks it, level " + level, x.pair(2, 0, 5, level), due[level]);
        }
        x = Checks.generous("on 1{cut 5{call 1;}}on 2{lend 5 6{call 2;}}on 3{}");
        x.rule(2, 5, 4);
        x.rule(3, 5, 7);
        x.ahead(0);
        due = new int[] {-1, -1, -1, -1, -1, 2, 2, 2, 3, 3};
        for (int level = 0; level < 10; level++) {
            Checks.due("lent and cut, level " + level, x.pair(2, 0, 5, level), due[level]);
        }
    }

    private static void theKth() {
        SealKeeper x = Checks.without("on 0{cut 7{call 1;}cut 0{call 1;}call 1;cut 3{call 1;}}on 0{}");
        Checks.due("ahead(0)", x.ahead(0), 5);
        int[] cut = {-1, 7, 3, 0};
        for (int k = 0; k < 4; k++) {
            for (int kind = 0; kind < 8; kind++) {
                Checks.due("pair(1, " + k + ", " + kind + ", 0)", x.pair(1, k, kind, 0), kind == cut[k] ? 0 : NONE);
            }
        }
        Checks.due("there is no fifth", x.pair(1, 4, 0, 0), NONE);
        x = Checks.generous(Texts.crowd(3, 5, 6));
        x.ahead(0);
        for (int k = 0; k < 256; k += 17) {
            for (int kind = 0; kind < 8; kind++) {
                Checks.due("pair(0, " + k + ", " + kind + ", 9)", x.pair(0, k, kind, 9), (k >> (7 - kind) & 1) == 1 ? 0 : NONE);
            }
        }
        Checks.due("there is no 257th", x.pair(0, 256, 7, 0), NONE);
        Checks.due("the last of method 1", x.pair(1, 31, 3, 0), 0);
        Checks.due("there is no 33rd", x.pair(1, 32, 3, 0), NONE);
        Checks.due("the last of method 3", x.pair(3, 3, 7, 0), 0);
        Checks.due("there is no fifth", x.pair(3, 4, 7, 0), NONE);
    }

    private static void kindByKindLevelByLevel() {
        SealKeeper x = Checks.without("on 0{cut 0{call 1;}cut 7{call 1;}}on 0{}");
        x.ahead(0);
        Checks.due("kind 0 is looked at first", x.pair(1, 0, 7, 0), 0);
        Checks.due("kind 0 is looked at first", x.pair(1, 1, 0, 0), 0);
        x = Checks.without("on 1{call 2;call 1;}on 7{call 3;}on 0{call 3;}on 1{}");
        x.rule(7, 0, 4);
        x.rule(0, 0, 3);
        Checks.due("ahead(0)", x.ahead(0), 5);
        Checks.due("level 4 is looked at ahead of level 9", x.pair(3, 0, 0, 4), NONE);
        Checks.due("its level 9", x.pair(3, 0, 0, 9), 7);
        Checks.due("the other's level 4", x.pair(3, 1, 0, 4), 0);
        x = Checks.without("on 1{call 1;cut 1{call 2;}}on 2{call 2;}on 1{}");
        x.rule(2, 0, 8);
        Checks.due("ahead(0)", x.ahead(0), 4);
        Checks.due("all levels of kind 0 ahead of kind 1", x.pair(2, 0, 1, 0), 1);
        Checks.due("its kind 0", x.pair(2, 0, 0, 9), NONE);
        Checks.due("the other's kind 0", x.pair(2, 1, 0, 9), 2);
        Checks.due("the other's kind 1", x.pair(2, 1, 1, 0), NONE);
        x = Checks.without("on 0{cut 1{call 1;}cut 0{call 1;}}on 2{}", 2);
        Checks.due("ahead(0)", x.ahead(0), 3);
        Checks.due("with its own entry", x.pair(1, 0, 1, 0), NONE);
        Checks.due("with its own entry", x.pair(1, 0, 0, 0), 2);
        Checks.due("with its own entry", x.pair(1, 1, 1, 0), 0);
        x = Checks.without("on 0{call 2;call 1;}on 1{call 2;}on 0{}");
        x.rule(1, 7, 8);
        Checks.due("ahead(0)", x.ahead(0), 4);
        Checks.due("the last level of the last kind counts, too", x.pair(2, 0, 7, 9), NONE);
        Checks.due("the last level of the last kind counts, too", x.pair(2, 1, 7, 9), 1);
    }

    private static void grantedAndLesserAhead() {
        SealKeeper x = Checks.without("on 0{cut 0{call 1;}call 1;}on 0{}");
        x.ahead(0);
        Checks.due("granted, ahead of refused by 0", x.pair(1, 0, 0, 0), NONE);
        Checks.due("refused by 0", x.pair(1, 1, 0, 0), 0);
        StringBuilder text = new StringBuilder("on 7{call 9;");
        for (int i = 0; i < 8; i++) {
            text.append("call ").append(i + 1).append(";");
        }
        text.append("}");
        int[] owners = {3, 7, 0, 5, 1, 6, 2, 4};
        for (int owner : owners) {
            text.append("on ").append(owner).append("{cut 4{call 9;}}");
        }
        x = Checks.without(text + "on 0{}");
        Checks.due("ahead(0)", x.ahead(0), 18);
        for (int k = 0; k < 9; k++) {
            Checks.due("pair(9, " + k + ", 4, 0)", x.pair(9, k, 4, 0), k - 1);
        }
    }

    private static void pairNone() {
        SealKeeper x = Checks.without("on 0{call 1;}on 0{}on 0{}");
        x.ahead(0);
        Checks.due("granted", x.pair(0, 0, 0, 9), NONE);
        x.rule(0, 0, -1);
        x.ahead(0);
        Checks.due("the last pair", x.pair(1, 0, 0, 0), 0);
        for (int k : new int[] {1, 2, 299, 300, 301, MOST}) {
            Checks.due("pair(0, " + k + ", 0, 0)", x.pair(0, k, 0, 0), NONE);
            Checks.due("pair(1, " + k + ", 0, 0)", x.pair(1, k, 0, 0), NONE);
        }
        Checks.due("a method that did not come", x.pair(2, 0, 0, 0), NONE);
    }

    private static void pairOutside() {
        SealKeeper x = Checks.keeper(Texts.methods(20));
        Checks.due("nothing is kept", x.pair(0, 0, 0, 0), STATE);
        x.ahead(19);
        Checks.due("all at their most", x.pair(19, 0, 7, 9), 0);
        Checks.due("all at their least", x.pair(0, 0, 0, 0), NONE);
        for (int wrong : new int[] {-1, 20, LEAST, MOST}) {
            Checks.due("method " + wrong, x.pair(wrong, 0, 0, 0), OUTSIDE);
        }
        for (int wrong : new int[] {-1, LEAST}) {
            Checks.due("k " + wrong, x.pair(19, wrong, 0, 0), OUTSIDE);
        }
        for (int wrong : new int[] {-1, 8, LEAST, MOST}) {
            Checks.due("kind " + wrong, x.pair(19, 0, wrong, 0), OUTSIDE);
        }
        for (int wrong : new int[] {-1, 10, LEAST, MOST}) {
            Checks.due("level " + wrong, x.pair(19, 0, 0, wrong), OUTSIDE);
        }
    }
}
