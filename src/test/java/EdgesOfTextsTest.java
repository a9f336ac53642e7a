import java.util.List;

/** Promises 4, 5, 9, 10 and section 2: a test for each sentence on texts, their limits and their FAULTS. */
public final class EdgesOfTextsTest {
    private static final int LEAST = Integer.MIN_VALUE, MOST = Integer.MAX_VALUE;

    public static void main(String[] args) {
        ofBytesAndTokens();
        ofTheGrammar();
        ofNumbers();
        ofFaults();
        ofPromises();
        Checks.end();
    }

    private static void ofBytesAndTokens() {
        Sentence.test("4", "words (letters a .. z, as long as can be)", EdgesOfTextsTest::words);
        Sentence.test("4", "numbers (digits, as long as can be)", EdgesOfTextsTest::numbers);
        Sentence.test("4", "the signs { } ;", EdgesOfTextsTest::signs);
        Sentence.test("4", "with bytes 32 and 10 between as one likes", EdgesOfTextsTest::gaps);
    }

    private static void ofTheGrammar() {
        Sentence.test("4", "METHODS are numbered from 0 in their order, each of an OWNER, with STEPS.",
                EdgesOfTextsTest::methodsInOrder);
        Sentence.test("4", "program: method { method }", EdgesOfTextsTest::oneMethodAtLeast);
        Sentence.test("4", "method: on OWNER block", EdgesOfTextsTest::methodForm);
        Sentence.test("4", "block: \"{\" { step } \"}\"", EdgesOfTextsTest::emptyBlocks);
        Sentence.test("4", "step: ask KIND LEVEL ; | call METHOD ; |", EdgesOfTextsTest::stepForms);
        Sentence.test("10", "STEPS are numbered from 0 in the order of the text", EdgesOfTextsTest::stepsInOrder);
    }

    private static void ofNumbers() {
        Sentence.test("4", "KIND, OWNER 0 .. 7;", EdgesOfTextsTest::kindsAndOwners);
        Sentence.test("4", "LEVEL 0 .. 9;", EdgesOfTextsTest::levels);
        Sentence.test("4", "SLOT 0 .. 3;", EdgesOfTextsTest::slots);
        Sentence.test("4", "TIMES 0 .. 99;", EdgesOfTextsTest::times);
        Sentence.test("4", "VALUE 0 .. 999;", EdgesOfTextsTest::values);
        Sentence.test("4", "METHOD 0 .. 99.", EdgesOfTextsTest::methodNumbers);
    }

    private static void ofFaults() {
        Sentence.test("5", "FAULTS, the first from the left:", EdgesOfTextsTest::theFirstFromTheLeft);
        Sentence.test("5", "1 a byte or token that can not stand there", EdgesOfTextsTest::tokensThatCanNotStandThere);
        Sentence.test("5", "a word that is none of those told;", EdgesOfTextsTest::wordsThatAreNone);
        Sentence.test("5", "a number of more than 3 digits;", EdgesOfTextsTest::numbersOfMoreDigits);
        Sentence.test("5", "at the end of the text: as many bytes as it has", EdgesOfTextsTest::theEndOfTheText);
        Sentence.test("5", "2 a number that is not as told, where one can stand.", EdgesOfTextsTest::numbersWhereOneCanStand);
        Sentence.test("5", "3 a block that lies within twelve others (at its { ).", EdgesOfTextsTest::blocksWithinTwelve);
        Sentence.test("5", "4 the 21st method (at its on)", EdgesOfTextsTest::the21stMethod);
        Sentence.test("5", "the 201st step (at its word).", EdgesOfTextsTest::the201stStep);
        Sentence.test("5", "If there is none of these: 5 the METHOD of the first call or later",
                EdgesOfTextsTest::methodsThatAreNot);
    }

    private static void ofPromises() {
        Sentence.test("4", "The tape, empty then, is the program, in place of the one before",
                EdgesOfTextsTest::inPlaceOfTheOneBefore);
        Sentence.test("4", "how many METHODS;", EdgesOfTextsTest::howManyMethods);
        Sentence.test("4", "-100 less the place of its FAULT (the program before stays).", EdgesOfTextsTest::placesOfFaults);
        Sentence.test("5", "The FAULT of the text that was read latest; 0 without.", EdgesOfTextsTest::theLatestFault);
        Sentence.test("9", "what 0 METHODS, 1 STEPS, 2 steps of the kind ask", EdgesOfTextsTest::aboutCounts);
        Sentence.test("9", "3 how many blocks lie within one another at most (a METHOD's own one counts).",
                EdgesOfTextsTest::aboutBlocks);
        Sentence.test("9", "OUTSIDE: what; STATE.", EdgesOfTextsTest::aboutOutside);
        Sentence.test("10", "what 0 its word's place among ask, call, lend", EdgesOfTextsTest::wordPlaces);
        Sentence.test("10", "1 its METHOD;", EdgesOfTextsTest::methodsOfSteps);
        Sentence.test("10", "2 its first number, 3 its second one (NONE without).", EdgesOfTextsTest::numbersOfSteps);
        Sentence.test("10", "STATE; OUTSIDE.", EdgesOfTextsTest::stepOutside);
    }

    // ---- bytes and tokens

    private static void words() {
        Checks.dueTaken("on1{ask1 2;try{}else{}say3;back;}", 1);
        Checks.dueFault("onask 1{}", 1, 0);
        Checks.dueFault("aon 1{}", 1, 0);
        Checks.dueFault("ona 1{}", 1, 0);
        Checks.dueFault("zon 1{}", 1, 0);
        Checks.dueFault("onz 1{}", 1, 0);
        Checks.dueFault("on`1{}", 1, 2);
        Checks.dueFault("onA1{}", 1, 2);
        Checks.dueFault("onZ1{}", 1, 2);
        Checks.dueFault("on\u00e11{}", 1, 2);
        Checks.dueFault("on 1{backback;}", 1, 5);
        Checks.dueFault("on 1{ba ck;}", 1, 5);
        Checks.dueFault("z".repeat(1200), 1, 0);
        Checks.dueFault("on 1{" + "a".repeat(1195), 1, 5);
        Checks.dueFault(Texts.filled("on 1{}", 1199) + "o", 1, 1199);
    }

    private static void numbers() {
        SealKeeper x = Checks.keeper("on 0{say 0;say 9;say 10;say 909;}");
        int[] due = {0, 9, 10, 909};
        for (int s = 0; s < due.length; s++) {
            Checks.due("step(" + s + ", 2)", x.step(s, 2), due[s]);
        }
        Checks.dueFault("on 1/{}", 1, 4);
        Checks.dueFault("on 1:{}", 1, 4);
        Checks.dueFault("on /{}", 1, 3);
        Checks.dueFault("on :{}", 1, 3);
        Checks.dueFault("on 1{say 1 2;}", 1, 11);
        Checks.dueFault("on 1{ask 12;}", 2, 9);
        Checks.dueFault("on 1{ask 11 2;}", 2, 9);
        Checks.dueFault("on 1{say 1z;}", 1, 10);
        Checks.dueFault("1".repeat(1200), 1, 0);
        Checks.dueFault("on " + "0".repeat(1197), 1, 3);
        Checks.dueFault(Texts.filled("on 1{}", 1199) + "1", 1, 1199);
    }

    private static void signs() {
        Checks.dueTaken("on 1{say 1;}", 1);
        for (char c : new char[] {'[', ']', '(', ')', '|', '~', ':', ',', '.', '-', '+', '"', '@'}) {
            Checks.dueFault("on 1" + c + "}", 1, 4);
            Checks.dueFault("on 1{" + c + "}", 1, 5);
            Checks.dueFault("on 1{say 1" + c + "}", 1, 10);
        }
        Checks.dueFault("{".repeat(1200), 1, 0);
        Checks.dueFault("on 1{" + ";".repeat(1195), 1, 5);
        Checks.dueFault("on 1{}" + "}".repeat(1194), 1, 6);
    }

    /** All 256 bytes within an empty block, and between on and its OWNER. */
    private static void gaps() {
        for (int b = 0; b < 256; b++) {
            String within = "on 1{" + (char) b + "}";
            String behindOn = "on" + (char) b + "1{}";
            if (b == 32 || b == 10) {
                Checks.dueTaken(within, 1);
                Checks.dueTaken(behindOn, 1);
            } else {
                Checks.dueFault(within, 1, b == '}' ? 6 : 5);
                dueByteBehindOn(behindOn, b);
            }
        }
        Checks.dueTaken("\n \non\n\n 1 \n{\nask\n1 2 ;\n }\n ", 1);
        Checks.dueTaken(" ".repeat(1194) + "on 1{}", 1);
        Checks.dueTaken("on 1{}" + "\n".repeat(1194), 1);
        Checks.dueFault("o n 1{}", 1, 0);
    }

    private static void dueByteBehindOn(String text, int b) {
        if (b >= 'a' && b <= 'z') {
            Checks.dueFault(text, 1, 0);
        } else if (b == '0') {
            Checks.dueTaken(text, 1);
        } else if (b >= '1' && b <= '9') {
            Checks.dueFault(text, 2, 2);
        } else {
            Checks.dueFault(text, 1, 2);
        }
    }

    // ---- the grammar

    private static void methodsInOrder() {
        StringBuilder text = new StringBuilder();
        for (int m = 0; m < 20; m++) {
            text.append("on ").append(m % 8).append("{say ").append(900 + m).append(";ask 0 0;}");
        }
        SealKeeper x = Checks.keeper(text.toString());
        for (int m = 0; m < 20; m++) {
            Checks.due("method of step " + 2 * m, x.step(2 * m, 1), m);
            Checks.due("run(" + m + ", 2)", x.run(m, 2), 0);
            Checks.dueNotes(x, "method " + m + " and its owner", 900 + m, 11000 + 1000 * (m % 8) + 2 * m + 1);
        }
        Checks.due("run(20, 2)", x.run(20, 2), SealKeeper.OUTSIDE);
    }

    private static void oneMethodAtLeast() {
        Checks.dueFault("", 1, 0);
        Checks.dueFault(" ", 1, 1);
        Checks.dueFault("\n \n", 1, 3);
        Checks.dueFault(" ".repeat(1200), 1, 1200);
        Checks.dueTaken("on 1{}", 1);
        Checks.dueTaken("on 1{}on 1{}", 2);
        Checks.dueFault("on 1{};", 1, 6);
        Checks.dueFault("on 1{};on 1{}", 1, 6);
        Checks.dueFault("on 1{}1", 1, 6);
        Checks.dueFault("on 1{}say 1;", 1, 6);
    }

    private static void methodForm() {
        Checks.dueFault("1{}", 1, 0);
        Checks.dueFault("on{}", 1, 2);
        Checks.dueFault("on 1", 1, 4);
        Checks.dueFault("on 1}", 1, 4);
        Checks.dueFault("on 1{", 1, 5);
        Checks.dueFault("on 1;{}", 1, 4);
        Checks.dueFault("on 1 1{}", 1, 5);
        Checks.dueFault("on on 1{}", 1, 3);
        Checks.dueFault("on 1{}{}", 1, 6);
        Checks.dueFault("on 1{on 1{}}", 1, 5);
    }

    private static void emptyBlocks() {
        SealKeeper x = Checks.keeper("on 1{lend 1 1{}cut 1{}under 0{}try{}else{}loop 1{}if 1 1{}else{}either{}or{}}");
        Checks.due("about(1)", x.about(1), 7);
        Checks.due("about(3)", x.about(3), 2);
        Checks.due("no step", Checks.keeper("on 1{}").about(1), 0);
        Checks.dueTaken("on 1{" + "back;".repeat(200) + "}", 1);
    }

    /** Each step's tokens; a block has no steps in it. */
    private static final List<String> STEPS = List.of("ask 7 3 ;", "call 7 ;", "lend 7 3 { }", "cut 7 { }", "keep 3 ;",
            "under 3 { }", "later 7 ;", "try { } else { }", "loop 3 { }", "say 3 ;", "if 7 3 { } else { }", "either { } or { }",
            "back ;");
    private static final List<String> STEP_WORDS = List.of("ask", "call", "lend", "cut", "keep", "under", "later", "try", "loop",
            "say", "if", "either", "back");

    private static void stepForms() {
        for (String step : STEPS) {
            Checks.dueTaken("on 1{" + step + "}" + Texts.methods(7), 8);
            Checks.dueTaken("on 1{" + step + step + "}" + Texts.methods(7), 8);
            String[] tokens = step.split(" ");
            StringBuilder ahead = new StringBuilder("on 1{");
            for (String token : tokens) {
                dueEndsAt(ahead.toString());
                dueNoOtherThan(token, ahead.toString());
                ahead.append(token).append(' ');
            }
        }
    }

    private static void dueEndsAt(String ahead) {
        Checks.dueFault(ahead, 1, ahead.length());
    }

    /** Tokens of all other sorts have to be FAULTS there. */
    private static void dueNoOtherThan(String due, String ahead) {
        boolean stepMayStand = due.equals("}") || STEP_WORDS.contains(due);
        boolean endMayStand = due.equals("}") || ahead.endsWith("on 1{");
        for (String other : List.of("{", "}", ";", "else", "or", "on", "1", "ask", "back", "@", "zz", "1234")) {
            boolean number = other.equals("1") && Character.isDigit(due.charAt(0));
            boolean step = STEP_WORDS.contains(other) && stepMayStand;
            boolean end = other.equals("}") && endMayStand;
            if (!other.equals(due) && !number && !step && !end) {
                Checks.dueFault(ahead + other, 1, ahead.length());
            }
        }
    }

    private static void stepsInOrder() {
        SealKeeper x = Checks.keeper("on 1{say 0;try{say 2;loop 3{say 4;}say 5;}else{say 6;}say 7;"
                + "either{}or{if 0 0{}else{say 10;}}}on 2{say 11;lend 0 0{cut 0{say 14;}}}");
        int[] words = {9, 7, 9, 8, 9, 9, 9, 9, 11, 10, 9, 9, 2, 3, 9};
        Checks.due("about(1)", x.about(1), words.length);
        for (int s = 0; s < words.length; s++) {
            Checks.due("step(" + s + ", 0)", x.step(s, 0), words[s]);
            if (words[s] == 9) {
                Checks.due("step(" + s + ", 2)", x.step(s, 2), s);
            }
        }
    }

    // ---- numbers

    /** A text with # for a number that is 0 up to a most one. */
    private static void dueUpTo(int most, String text) {
        int place = text.indexOf('#');
        int methods = text.split("on ").length - 1;
        Checks.dueTaken(text.replace("#", "0"), methods);
        Checks.dueTaken(text.replace("#", "" + most), methods);
        if (most < 999) {
            Checks.dueFault(text.replace("#", "" + (most + 1)), 2, place);
            Checks.dueFault(text.replace("#", "999"), 2, place);
        }
        if (most < 100) {
            Checks.dueTaken(text.replace("#", "0" + most), methods);
        }
        Checks.dueFault(text.replace("#", "1000"), 1, place);
        Checks.dueFault(text.replace("#", "0000"), 1, place);
        Checks.dueFault(text.replace("#", "-1"), 1, place);
    }

    private static void kindsAndOwners() {
        dueUpTo(7, "on #{}");
        dueUpTo(7, "on 1{}on #{}");
        dueUpTo(7, "on 1{ask # 9;}");
        dueUpTo(7, "on 1{lend # 9{}}");
        dueUpTo(7, "on 1{cut #{}}");
        dueUpTo(7, "on 1{if # 9{}else{}}");
    }

    private static void levels() {
        dueUpTo(9, "on 1{ask 7 #;}");
        dueUpTo(9, "on 1{lend 7 #{}}");
        dueUpTo(9, "on 1{if 7 #{}else{}}");
    }

    private static void slots() {
        dueUpTo(3, "on 1{keep #;}");
        dueUpTo(3, "on 1{under #{}}");
    }

    private static void times() {
        dueUpTo(99, "on 1{loop #{}}");
    }

    private static void values() {
        dueUpTo(999, "on 1{say #;}");
    }

    private static void methodNumbers() {
        for (String word : new String[] {"call", "later"}) {
            String text = "on 1{" + word + " #;}";
            int place = text.indexOf('#');
            Checks.dueTaken(text.replace("#", "0"), 1);
            Checks.dueTaken(text.replace("#", "19") + Texts.methods(19), 20);
            Checks.dueFault(text.replace("#", "20") + Texts.methods(19), 5, place);
            Checks.dueFault(text.replace("#", "99") + Texts.methods(19), 5, place);
            Checks.dueFault(text.replace("#", "099") + Texts.methods(19), 5, place);
            Checks.dueFault(text.replace("#", "100"), 2, place);
            Checks.dueFault(text.replace("#", "999"), 2, place);
            Checks.dueFault(text.replace("#", "1000"), 1, place);
        }
    }

    // ---- faults

    /** Each text has two FAULTS, the first of which is marked by a # ahead of it. */
    private static void theFirstFromTheLeft() {
        String deep = "cut 1{".repeat(11) + "cut 1";
        String full = "back;".repeat(200);
        dueAtMark("on 1{ask #8 0;@}", 2);
        dueAtMark("on 1{#@ask 8 0;}", 1);
        dueAtMark("on 1{#@" + deep + "{}", 1);
        dueAtMark("on 1{" + deep + "#{@", 3);
        dueAtMark("on 1{ask #8 0;" + deep + "{}", 2);
        dueAtMark("on 1{" + deep + "#{ask 8 0;}", 3);
        dueAtMark("on 1{#@" + full + "back;}", 1);
        dueAtMark("on 1{" + full + "#back;@}", 4);
        dueAtMark("on #8{" + full + "back;}", 2);
        dueAtMark("on 1{" + full + "#ask 8 0;}", 4);
        dueAtMark("on 1{" + deep + "#{" + full + "back;}", 3);
        dueAtMark("on 1{" + full + "#" + deep + "{}", 4);
        dueAtMark(Texts.methods(20) + "#on 8{}", 4);
        dueAtMark(Texts.methods(20) + "#on{}", 4);
        dueAtMark("on 1{call 9;#@}", 1);
        dueAtMark("on 1{call 9;ask #8 0;}", 2);
        dueAtMark("on 1{call 9;" + deep + "#{}", 3);
        dueAtMark("on 1{call 9;" + "back;".repeat(199) + "#back;}", 4);
        dueAtMark("on 1{call 20;}" + Texts.methods(19) + "#on 1{}", 4);
        dueAtMark("on 1{call 9;#", 1);
    }

    private static void dueAtMark(String text, int fault) {
        int mark = text.indexOf('#');
        Checks.dueFault(text.replace("#", ""), fault, mark);
    }

    private static void tokensThatCanNotStandThere() {
        dueAtMark("#;on 1{}", 1);
        dueAtMark("on 1{#;}", 1);
        dueAtMark("on 1{#5}", 1);
        dueAtMark("on 1{#{}}", 1);
        dueAtMark("on 1{#else{}}", 1);
        dueAtMark("on 1{#or{}}", 1);
        dueAtMark("on 1{}  \n #}", 1);
        dueAtMark("on 1{say 1;#;}", 1);
        dueAtMark("on 1{cut 1{}#;}", 1);
        dueAtMark("on 1{try{}else{}#else{}}", 1);
        dueAtMark("on 1{either{}#else{}}", 1);
        dueAtMark("on 1{try{}#or{}}", 1);
        dueAtMark("on 1{if 1 1{}#or{}}", 1);
        dueAtMark("on 1{if 1 1{}#}", 1);
        dueAtMark("on 1{loop 1#;}", 1);
        dueAtMark("on 1{try #1{}else{}}", 1);
        dueAtMark("on 1{back #1;}", 1);
        dueAtMark("on 1{keep 1 #1;}", 1);
        dueAtMark("on 1{}#\u0000", 1);
        dueAtMark("on 1{}#\u00ff", 1);
    }

    private static void wordsThatAreNone() {
        for (String word : List.of("program", "method", "block", "step", "owner", "kind", "a", "z", "o", "n", "as", "asks", "cal",
                "calls", "len", "cu", "kee", "unde", "late", "tr", "loo", "sa", "i", "eithe", "eithers", "bac", "els", "elses",
                "onn", "trycut")) {
            dueAtMark("#" + word + " 1{}", 1);
            dueAtMark("on 1{#" + word + "}", 1);
            dueAtMark("on 1{ask #" + word + " 1;}", 1);
        }
        dueAtMark("on 1{try{}#elsee{}}", 1);
        dueAtMark("on 1{either{}#orr{}}", 1);
        for (String step : STEPS) {
            dueNoneIfChanged("on 1{", step.split(" ")[0], step.substring(step.indexOf(' ')) + "}");
        }
        dueNoneIfChanged("", "on", " 1{}");
        dueNoneIfChanged("on 1{try{}", "else", "{}}");
        dueNoneIfChanged("on 1{either{}", "or", "{}}");
    }

    /** A word with any one letter changed, gone or twice is none of those told. */
    private static void dueNoneIfChanged(String ahead, String word, String behind) {
        for (int i = 0; i < word.length(); i++) {
            String start = word.substring(0, i);
            String rest = word.substring(i + 1);
            Checks.dueFault(ahead + start + "z" + rest + behind, 1, ahead.length());
            Checks.dueFault(ahead + start + word.charAt(i) + word.charAt(i) + rest + behind, 1, ahead.length());
            Checks.dueFault(ahead + start + rest + behind, 1, ahead.length());
        }
    }

    private static void numbersOfMoreDigits() {
        Checks.dueTaken("on 007{ask 000 009;say 999;say 000;loop 099{}keep 003;call 000;}", 1);
        dueAtMark("on #0007{}", 1);
        dueAtMark("on 1{ask #0001 1;}", 1);
        dueAtMark("on 1{ask 1 #0001;}", 1);
        dueAtMark("on 1{say #1000;}", 1);
        dueAtMark("on 1{say #0999;}", 1);
        dueAtMark("on 1{loop #0099{}}", 1);
        dueAtMark("on 1{call #0000;}", 1);
        dueAtMark("on 1{later #0000;}", 1);
        dueAtMark("on 1{keep #0000;}", 1);
        dueAtMark("on 1{#1000}", 1);
        dueAtMark("on 1{say #4294967297;}", 1);
        dueAtMark("on #18446744073709551617{}", 1);
    }

    private static void theEndOfTheText() {
        String text = "on 1 { if 1 2 { either { } or { say 3 ; } } else { back ; } }";
        for (int length = 0; length < text.length(); length++) {
            String start = text.substring(0, length);
            boolean wordIsCut = length > 0 && Character.isLetter(text.charAt(length - 1)) && Character.isLetter(text.charAt(length));
            if (!wordIsCut) {
                Checks.dueFault(start, 1, length);
                Checks.dueFault(start + " \n ", 1, length + 3);
            }
        }
        Checks.dueTaken(text, 1);
        Checks.dueFault(Texts.filled("on 1{", 1200), 1, 1200);
        Checks.dueTaken(Texts.filled("on 1{", 1199) + "}", 1);
        Checks.dueFault("on 1{sa", 1, 5);
    }

    private static void numbersWhereOneCanStand() {
        dueAtMark("on #8{}", 2);
        dueAtMark("on 1{ask #8 9;}", 2);
        dueAtMark("on 1{ask 7 #10;}", 2);
        dueAtMark("on 1{ask #8 10;}", 2);
        dueAtMark("on 1{#8}", 1);
        dueAtMark("on 1{}#999", 1);
        dueAtMark("#999", 1);
        dueAtMark("on 1{ask 1 1 #10;}", 1);
        dueAtMark("on 1{try #999{}else{}}", 1);
        dueAtMark("on 1{cut 1 #999{}}", 1);
        dueAtMark("on 1{back #999;}", 1);
    }

    private static void blocksWithinTwelve() {
        List<String> heads = List.of("lend 1 1{", "cut 1{", "under 1{", "try{", "loop 1{", "if 1 1{", "either{", "try{}else{",
                "if 1 1{}else{", "either{}or{");
        List<String> tails = List.of("}", "}", "}", "}else{}", "}", "}else{}", "}or{}", "}", "}", "}");
        for (int i = 0; i < heads.size(); i++) {
            String head = heads.get(i);
            String tail = tails.get(i);
            String twelve = "on 1{" + head.repeat(11) + tail.repeat(11) + "}";
            Checks.dueTaken(twelve, 1);
            Checks.due("about(3) of '" + twelve + "'", Checks.keeper(twelve).about(3), 12);
            String ahead = "on 1{" + head.repeat(11) + head.substring(0, head.indexOf('{'));
            Checks.dueFault(ahead + "{", 3, ahead.length());
            Checks.dueFault(ahead + "\n{}", 3, ahead.length() + 1);
            Checks.dueFault(ahead + ";", 1, ahead.length());
            Checks.dueFault(ahead, 1, ahead.length());
        }
        Checks.dueTaken(Texts.nested(12, "say 1;"), 1);
        Checks.dueTaken("on 1{" + "cut 1{}".repeat(50) + Texts.nested(11, "").substring(5), 1);
        Checks.dueTaken(Texts.nested(12, "") + Texts.nested(12, ""), 2);
    }

    private static void the21stMethod() {
        Checks.dueTaken(Texts.methods(20), 20);
        Checks.dueTaken(Texts.methods(20) + "\n", 20);
        dueAtMark(Texts.methods(20) + "#on 0{}", 4);
        dueAtMark(Texts.methods(20) + "\n  #on", 4);
        dueAtMark(Texts.methods(20) + "#onn 0{}", 1);
        dueAtMark(Texts.methods(20) + "#{", 1);
        dueAtMark(Texts.methods(19) + "on 0{#on 0{}}", 1);
        dueAtMark(Texts.methods(25).replaceFirst("(.{120})", "$1#"), 4);
    }

    private static void the201stStep() {
        String steps = "back;".repeat(200);
        SealKeeper x = Checks.keeper("on 1{" + steps + "}");
        Checks.due("about(1)", x.about(1), 200);
        dueAtMark("on 1{" + steps + "#back;}", 4);
        dueAtMark("on 1{" + steps + " \n#ask", 4);
        dueAtMark("on 1{" + steps + "#bac;}", 1);
        dueAtMark("on 1{" + steps + "#;}", 1);
        dueAtMark("on 1{" + steps + "#", 1);
        dueAtMark("on 1{" + steps + "}on 1{#say 1;}", 4);
        Checks.dueTaken("on 1{" + steps + "}on 1{}", 2);
        String within = "on 1{try{" + "back;".repeat(198) + "}else{";
        Checks.dueTaken(within + "back;}}", 1);
        dueAtMark(within + "back;#back;}}", 4);
        dueAtMark(within + "back;}#back;}", 4);
        dueAtMark(within + "back;}}on 2{#try{}else{}}", 4);
        dueAtMark("on 1{" + "back;".repeat(199) + "cut 1{#back;}}", 4);
    }

    private static void methodsThatAreNot() {
        Checks.dueTaken("on 1{call 0;later 0;}", 1);
        dueAtMark("on 1{call #1;}", 5);
        dueAtMark("on 1{later #1;}", 5);
        Checks.dueTaken("on 1{call 1;later 1;}on 1{}", 2);
        dueAtMark("on 1{call 1;later #2;call 3;}on 1{}", 5);
        dueAtMark("on 1{later 1;call #2;later 3;}on 1{}", 5);
        dueAtMark("on 1{}on 1{cut 1{try{}else{call #002;}}}", 5);
        dueAtMark("on 1{call  \n #99;say 999;loop 99{}}", 5);
        Checks.dueTaken("on 1{say 99;loop 99{}keep 3;lend 7 9{}}", 1);
        Checks.dueTaken("on 1{call 19;}" + Texts.methods(19), 20);
        dueAtMark("on 1{call #20;}" + Texts.methods(19), 5);
        dueAtMark("on 1{" + "back;".repeat(199) + "later #1;}", 5);
    }

    // ---- promises

    private static void inPlaceOfTheOneBefore() {
        SealKeeper x = Checks.keeper("on 1{say 1;ask 2 2;cut 1{}}on 1{}");
        x.run(0, 9);
        x.ahead(0);
        Checks.due("count(0)", x.count(0), 0);
        Checks.due("the next one", Checks.read(x, "on 4{back;}"), 1);
        Checks.due("count(0)", x.count(0), 0);
        Checks.due("methods", x.about(0), 1);
        Checks.due("steps", x.about(1), 1);
        Checks.due("asks", x.about(2), 0);
        Checks.due("blocks", x.about(3), 1);
        Checks.due("step(0, 2)", x.step(0, 2), SealKeeper.NONE);
        Checks.due("step(1, 0)", x.step(1, 0), SealKeeper.OUTSIDE);
        Checks.due("run(1, 9)", x.run(1, 9), SealKeeper.OUTSIDE);
        Checks.due("ran(0)", x.ran(0), SealKeeper.NONE);
        Checks.due("told(0)", x.told(0), SealKeeper.STATE);
        Checks.due("the tape is no text twice", x.program(), -100);
        Checks.due("the program stays then", x.about(1), 1);
        Checks.due("a greater one", Checks.read(x, Texts.methods(19) + "on 0{" + "back;".repeat(200) + "}"), 20);
        Checks.due("steps", x.about(1), 200);
        Checks.due("blocks", x.about(3), 1);
        Checks.due("the least one", Checks.read(x, "on 0{}"), 1);
        Checks.due("steps", x.about(1), 0);
        Checks.due("blocks", x.about(3), 1);
        x = Checks.keeper(Texts.nested(12, "ask 1 1;"));
        Checks.due("one with a fault", Checks.read(x, Texts.nested(11, "@")), -165);
        for (int i = 0; i < 3; i++) {
            Checks.due("behind it", Checks.read(x, "on 0{cut 1{}}"), 1);
            Checks.due("blocks", x.about(3), 2);
            Checks.due("asks", x.about(2), 0);
        }
    }

    private static void howManyMethods() {
        for (int many = 1; many <= 20; many++) {
            Checks.dueTaken(Texts.methods(many), many);
        }
    }

    private static void placesOfFaults() {
        SealKeeper x = Checks.keeper("on 1{say 5;}on 2{}");
        x.run(0, 9);
        x.ahead(0);
        int[] places = {0, 1, 19, 20, 599, 1199};
        for (int place : places) {
            Checks.due("a fault at " + place, Checks.read(x, " ".repeat(place) + "@"), -100 - place);
            Checks.due("count(0)", x.count(0), 0);
            Checks.due("methods", x.about(0), 2);
            Checks.due("step(0, 2)", x.step(0, 2), 5);
            Checks.due("ran(0)", x.ran(0), 1);
            Checks.due("told(2)", x.told(2), 1);
        }
        Checks.due("a fault at the end", Checks.read(x, " ".repeat(1200)), -1300);
        Checks.due("one that was read nearly whole", Checks.read(x, "on 3{ask 0 0;cut 0{cut 0{}}call 9;}"), -132);
        Checks.due("steps", x.about(1), 1);
        Checks.due("blocks", x.about(3), 1);
        Checks.due("run(0, 9)", x.run(0, 9), 0);
        Checks.dueNotes(x, "the program before", 5);
        Checks.due("ahead(1)", x.ahead(1), 1);
    }

    private static void theLatestFault() {
        SealKeeper x = new SealKeeper();
        Checks.due("no text", x.fault(), 0);
        x.feed(0, 0, 0, 0, 0);
        Checks.due("a text that is not read", x.fault(), 0);
        x.trim(0);
        String[] texts = {"@", "on 8{}", Texts.nested(13, ""), Texts.methods(21), "on 1{" + "back;".repeat(201) + "}",
                "on 1{call 1;}",
            "on 1{}"};
        int[] faults = {1, 2, 3, 4, 4, 5, 0};
        for (int i = 0; i < texts.length; i++) {
            Checks.read(x, texts[i]);
            Checks.due("after text " + i, x.fault(), faults[i]);
            x.feed(0, 0, 0, 0, 0);
            x.trim(0);
            Checks.due("still after text " + i, x.fault(), faults[i]);
        }
        Checks.read(x, "on 8{}");
        x.run(0, 9);
        x.ahead(0);
        x.rule(0, 0, 0);
        Checks.due("other calls leave it", x.fault(), 2);
        x.program();
        Checks.due("of no bytes", x.fault(), 1);
    }

    private static void dueAbout(String text, int methods, int steps, int asks, int blocks) {
        SealKeeper x = Checks.keeper(text);
        Checks.due("about(0)", x.about(0), methods);
        Checks.due("about(1)", x.about(1), steps);
        Checks.due("about(2)", x.about(2), asks);
        Checks.due("about(3)", x.about(3), blocks);
    }

    private static void aboutCounts() {
        dueAbout("on 1{}", 1, 0, 0, 1);
        dueAbout(Texts.methods(20), 20, 0, 0, 1);
        dueAbout("on 1{" + "back;".repeat(200) + "}", 1, 200, 0, 1);
        dueAbout("on 1{" + "ask0 0;".repeat(170) + "}", 1, 170, 170, 1);
        dueAbout("on 1{ask 0 0;if 0 0{ask 0 0;}else{say 0;}}on 1{try{}else{ask 1 1;}}", 2, 6, 3, 2);
        dueAbout("on 1{if 0 0{}else{}lend 0 0{}}", 1, 2, 0, 2);
    }

    private static void aboutBlocks() {
        for (int blocks = 1; blocks <= 12; blocks++) {
            dueAbout(Texts.nested(blocks, ""), 1, blocks - 1, 0, blocks);
            dueAbout("on 1{}" + Texts.nested(blocks, "") + "on 1{}", 3, blocks - 1, 0, blocks);
        }
        dueAbout("on 1{cut 1{}cut 1{}cut 1{}}", 1, 3, 0, 2);
        dueAbout("on 1{try{}else{cut 1{}}}on 1{cut 1{}}", 2, 3, 0, 3);
    }

    private static void aboutOutside() {
        SealKeeper x = Checks.keeper("on 1{}");
        for (int what : new int[] {-1, 4, LEAST, MOST}) {
            Checks.due("about(" + what + ")", x.about(what), SealKeeper.OUTSIDE);
            Checks.due("without a program: about(" + what + ")", new SealKeeper().about(what), SealKeeper.OUTSIDE);
        }
        for (int what = 0; what < 4; what++) {
            Checks.due("without a program: about(" + what + ")", new SealKeeper().about(what), SealKeeper.STATE);
        }
    }

    private static void wordPlaces() {
        for (int i = 0; i < STEPS.size(); i++) {
            SealKeeper x = Checks.keeper("on 1{" + STEPS.get(i) + "}" + Texts.methods(7));
            Checks.due(STEPS.get(i), x.step(0, 0), i);
        }
    }

    private static void methodsOfSteps() {
        SealKeeper x = Checks.keeper("on 1{say 1;}" + Texts.methods(18) + "on 1{cut 1{say 2;}}");
        Checks.due("the first", x.step(0, 1), 0);
        Checks.due("the last", x.step(1, 1), 19);
        Checks.due("one in its block", x.step(2, 1), 19);
    }

    private static void numbersOfSteps() {
        SealKeeper x = Checks.keeper("on 1{" + String.join("", STEPS) + "}" + Texts.methods(7));
        int[] first = {7, 7, 7, 7, 3, 3, 7, -1, 3, 3, 7, -1, -1};
        int[] second = {3, -1, 3, -1, -1, -1, -1, -1, -1, -1, 3, -1, -1};
        for (int s = 0; s < first.length; s++) {
            Checks.due("step(" + s + ", 2)", x.step(s, 2), first[s]);
            Checks.due("step(" + s + ", 3)", x.step(s, 3), second[s]);
        }
        x = Checks.keeper("on 1{ask 0 0;ask 7 9;lend 0 0{}if 0 9{}else{}say 999;loop 99{}say 000;loop 0{}}");
        first = new int[] {0, 7, 0, 0, 999, 99, 0, 0};
        second = new int[] {0, 9, 0, 9, -1, -1, -1, -1};
        for (int s = 0; s < first.length; s++) {
            Checks.due("edges: step(" + s + ", 2)", x.step(s, 2), first[s]);
            Checks.due("edges: step(" + s + ", 3)", x.step(s, 3), second[s]);
        }
    }

    private static void stepOutside() {
        for (int steps : new int[] {0, 1, 200}) {
            SealKeeper x = Checks.keeper("on 1{" + "back;".repeat(steps) + "}");
            Checks.due("the first", x.step(0, 0), steps == 0 ? SealKeeper.OUTSIDE : 12);
            Checks.due("the last", x.step(steps - 1, 0), steps == 0 ? SealKeeper.OUTSIDE : 12);
            for (int wrong : new int[] {-1, steps, 201, LEAST, MOST}) {
                for (int what = 0; what < 4; what++) {
                    Checks.due("step(" + wrong + ", " + what + ")", x.step(wrong, what), SealKeeper.OUTSIDE);
                }
            }
            for (int wrong : new int[] {-1, 4, LEAST, MOST}) {
                Checks.due("step(0, " + wrong + ")", x.step(0, wrong), SealKeeper.OUTSIDE);
            }
            Checks.due("what 3", x.step(0, 3), steps == 0 ? SealKeeper.OUTSIDE : SealKeeper.NONE);
        }
        Checks.due("without a program", new SealKeeper().step(0, 0), SealKeeper.STATE);
    }
}
