/** Promises 4 (program), 5 (fault), 9 (about), 10 (step): texts and their FAULTS. */
public final class ProgramsTest {
    public static void main(String[] args) {
        stepsAreTold();
        gapsAsOneLikes();
        numbersAtTheirEdges();
        wrongTokens();
        wordsThatAreNone();
        endsTooEarly();
        wrongNumbers();
        blocksTooDeep();
        tooManyMethods();
        tooManySteps();
        methodsThatAreNotThere();
        theFirstFaultCounts();
        theProgramBeforeStays();
        theProgramIsReplaced();
        manyProgramsInTurn();
        outside();
        Checks.end();
    }

    private static void dueStep(SealKeeper x, int step, int word, int method, int first, int second) {
        Checks.due("step(" + step + ", 0)", x.step(step, 0), word);
        Checks.due("step(" + step + ", 1)", x.step(step, 1), method);
        Checks.due("step(" + step + ", 2)", x.step(step, 2), first);
        Checks.due("step(" + step + ", 3)", x.step(step, 3), second);
    }

    private static void stepsAreTold() {
        SealKeeper x = Checks.keeper("on 7 { ask 1 2; call 1; lend 3 4 { cut 5 { keep 3; } } under 2 { later 0; } "
                + "try { loop 99 { } } else { say 999; } }\n"
                + "on 0 { if 6 7 { back; } else { either { ask 0 9; } or { ask 7 0; } } }");
        Checks.due("about(0)", x.about(0), 2);
        Checks.due("about(1)", x.about(1), 15);
        Checks.due("about(2)", x.about(2), 3);
        Checks.due("about(3)", x.about(3), 3);
        Checks.due("fault()", x.fault(), 0);
        dueStep(x, 0, 0, 0, 1, 2);
        dueStep(x, 1, 1, 0, 1, -1);
        dueStep(x, 2, 2, 0, 3, 4);
        dueStep(x, 3, 3, 0, 5, -1);
        dueStep(x, 4, 4, 0, 3, -1);
        dueStep(x, 5, 5, 0, 2, -1);
        dueStep(x, 6, 6, 0, 0, -1);
        dueStep(x, 7, 7, 0, -1, -1);
        dueStep(x, 8, 8, 0, 99, -1);
        dueStep(x, 9, 9, 0, 999, -1);
        dueStep(x, 10, 10, 1, 6, 7);
        dueStep(x, 11, 12, 1, -1, -1);
        dueStep(x, 12, 11, 1, -1, -1);
        dueStep(x, 13, 0, 1, 0, 9);
        dueStep(x, 14, 0, 1, 7, 0);
    }

    private static void gapsAsOneLikes() {
        SealKeeper x = Checks.keeper("on1{ask1 2;try{}else{}say3;back;}");
        Checks.due("about(1)", x.about(1), 4);
        x = Checks.keeper("\n \n on \n1\n{\nask 1\n\n2 ; }\n \n");
        Checks.due("about(1)", x.about(1), 1);
        Checks.dueFault("on 1 {\t}", 1, 6);
        Checks.dueFault("on 1 {\r\n}", 1, 6);
        Checks.dueFault("on 1 {}\u0000", 1, 7);
    }

    private static void numbersAtTheirEdges() {
        SealKeeper x = Checks.keeper("on 007 { ask 000 009; loop 099 { } say 000; keep 03; }");
        Checks.due("about(1)", x.about(1), 4);
        Checks.due("step(0, 3)", x.step(0, 3), 9);
        Checks.due("step(1, 2)", x.step(1, 2), 99);
        Checks.due("step(3, 2)", x.step(3, 2), 3);
    }

    private static void wrongTokens() {
        Checks.dueFault("{ }", 1, 0);
        Checks.dueFault("1 { }", 1, 0);
        Checks.dueFault("on { }", 1, 3);
        Checks.dueFault("on on { }", 1, 3);
        Checks.dueFault("on 1 1 { }", 1, 5);
        Checks.dueFault("on 1 ; }", 1, 5);
        Checks.dueFault("on 1 { } }", 1, 9);
        Checks.dueFault("on 1 { } ask 1 2;", 1, 9);
        Checks.dueFault("on 1 { on 1 { } }", 1, 7);
        Checks.dueFault("on 1 { else { } }", 1, 7);
        Checks.dueFault("on 1 { or { } }", 1, 7);
        Checks.dueFault("on 1 { ; }", 1, 7);
        Checks.dueFault("on 1 { 5 }", 1, 7);
        Checks.dueFault("on 1 { { } }", 1, 7);
        Checks.dueFault("on 1 { ask 1 2 }", 1, 15);
        Checks.dueFault("on 1 { ask 1 2 3; }", 1, 15);
        Checks.dueFault("on 1 { ask; }", 1, 10);
        Checks.dueFault("on 1 { call 0 { } }", 1, 14);
        Checks.dueFault("on 1 { lend 1 2; }", 1, 15);
        Checks.dueFault("on 1 { cut 1 2 { } }", 1, 13);
        Checks.dueFault("on 1 { try { } }", 1, 15);
        Checks.dueFault("on 1 { try { } or { } }", 1, 15);
        Checks.dueFault("on 1 { try 1 { } else { } }", 1, 11);
        Checks.dueFault("on 1 { if 1 2 { } or { } }", 1, 18);
        Checks.dueFault("on 1 { if 1 2 { } else say 1; }", 1, 23);
        Checks.dueFault("on 1 { either { } else { } }", 1, 18);
        Checks.dueFault("on 1 { loop { } }", 1, 12);
        Checks.dueFault("on 1 { say 1 }", 1, 13);
        Checks.dueFault("on 1 { back 1; }", 1, 12);
        Checks.dueFault("on 1 { keep x; }", 1, 12);
        Checks.dueFault("on -1 { }", 1, 3);
    }

    private static void wordsThatAreNone() {
        Checks.dueFault("onn 1 { }", 1, 0);
        Checks.dueFault("o 1 { }", 1, 0);
        Checks.dueFault("ON 1 { }", 1, 0);
        Checks.dueFault("on 1 { asks 1 2; }", 1, 7);
        Checks.dueFault("on 1 { eithers { } or { } }", 1, 7);
        Checks.dueFault("on 1 { eithe { } or { } }", 1, 7);
        Checks.dueFault("on 1 { backback; }", 1, 7);
        Checks.dueFault("on 1 { trycut { } }", 1, 7);
        Checks.dueFault("on 1 { say 1; } on 1 { las }", 1, 23);
        Checks.dueFault("on 1 { k }", 1, 7);
        Checks.dueFault("onz 1 { }", 1, 0);
        Checks.dueFault("aon 1 { }", 1, 0);
        Checks.dueFault("on 1 { say 1z; }", 1, 12);
        Checks.dueFault("on 1 { say`1; }", 1, 10);
        Checks.dueFault("on 1 { ask\u00e91 2; }", 1, 10);
    }

    private static void endsTooEarly() {
        String text = "on 1 { try { ask 1 2; } else { say 3; } }";
        SealKeeper x = new SealKeeper();
        for (int length = 0; length < text.length(); length++) {
            Checks.tape(x, text.substring(0, length));
            int got = x.program();
            char last = length == 0 ? ' ' : text.charAt(length - 1);
            boolean inWord = Character.isLetter(last) && Character.isLetter(text.charAt(length));
            if (!inWord) {
                Checks.due("the first " + length + " bytes", got, -100 - length);
            }
            Checks.due("its fault", x.fault(), 1);
        }
        Checks.dueFault("  \n", 1, 3);
        Checks.dueFault("on 1 {   ", 1, 9);
        Checks.dueFault("on 1 { tr", 1, 7);
    }

    private static void wrongNumbers() {
        Checks.dueFault("on 8 { }", 2, 3);
        Checks.dueFault("on 10 { }", 2, 3);
        Checks.dueFault("on 0001 { }", 1, 3);
        Checks.dueFault("on 1 { ask 8 1; }", 2, 11);
        Checks.dueFault("on 1 { ask 7 10; }", 2, 13);
        Checks.dueFault("on 1 { lend 8 1 { } }", 2, 12);
        Checks.dueFault("on 1 { lend 7 10 { } }", 2, 14);
        Checks.dueFault("on 1 { cut 8 { } }", 2, 11);
        Checks.dueFault("on 1 { keep 4; }", 2, 12);
        Checks.dueFault("on 1 { under 4 { } }", 2, 13);
        Checks.dueFault("on 1 { call 100; }", 2, 12);
        Checks.dueFault("on 1 { later 100; }", 2, 13);
        Checks.dueFault("on 1 { loop 100 { } }", 2, 12);
        Checks.dueFault("on 1 { if 8 1 { } else { } }", 2, 10);
        Checks.dueFault("on 1 { if 1 10 { } else { } }", 2, 12);
        Checks.dueFault("on 1 { say 1000; }", 1, 11);
        Checks.dueFault("on 1 { ask 8000 1; }", 1, 11);
        Checks.dueFault("on 1 { say 99999999999999999999; }", 1, 11);
    }

    private static String nested(int blocks) {
        StringBuilder out = new StringBuilder("on 1 {");
        for (int i = 1; i < blocks; i++) {
            out.append(i % 2 == 0 ? "cut 1{" : "loop 1{");
        }
        for (int i = 0; i < blocks; i++) {
            out.append('}');
        }
        return out.toString();
    }

    private static void blocksTooDeep() {
        SealKeeper x = Checks.keeper(nested(12));
        Checks.due("about(3)", x.about(3), 12);
        String deep = nested(13);
        Checks.dueFault(deep, 3, deep.lastIndexOf('{'));
        Checks.due("one block", Checks.keeper("on 1 { }").about(3), 1);
        x = Checks.keeper("on 1 { try { } else { cut 1 { } } } on 2 { cut 1 { } }");
        Checks.due("the second block's depth", x.about(3), 3);
        String second = nested(12).replace("{}", "{try{}else{}}");
        Checks.dueFault(second, 3, second.indexOf("try{") + 3);
    }

    private static void tooManyMethods() {
        StringBuilder out = new StringBuilder();
        for (int i = 0; i < 20; i++) {
            out.append("on ").append(i % 8).append("{}\n");
        }
        SealKeeper x = Checks.keeper(out.toString());
        Checks.due("about(0)", x.about(0), 20);
        Checks.dueFault(out + "on 1{}", 4, out.length());
        Checks.dueFault(out + "on 9{}", 4, out.length());
        Checks.dueFault(out + "onn 9{}", 1, out.length());
        Checks.dueFault(out + "  }", 1, out.length() + 2);
    }

    private static void tooManySteps() {
        StringBuilder out = new StringBuilder("on 1{try{");
        for (int i = 0; i < 198; i++) {
            out.append("back;");
        }
        out.append("}else{");
        SealKeeper x = Checks.keeper(out + "back;}}");
        Checks.due("about(1)", x.about(1), 200);
        Checks.due("step(199, 0)", x.step(199, 0), 12);
        Checks.due("step(200, 0)", x.step(200, 0), SealKeeper.OUTSIDE);
        Checks.dueFault(out + "back; back;}}", 4, out.length() + 6);
        Checks.dueFault(out + "back;} say 1000;}", 4, out.length() + 7);
        Checks.dueFault(out + "back;} bac;}", 1, out.length() + 7);
        Checks.dueFault(out + "back;}}on 1{ask", 4, out.length() + 12);
    }

    private static void methodsThatAreNotThere() {
        Checks.dueFault("on 1 { call 1; }", 5, 12);
        Checks.dueFault("on 1 { later 1; }", 5, 13);
        Checks.dueFault("on 1 { call 0; later 2; call 9; } on 1 { }", 5, 21);
        Checks.dueFault("on 1 { } on 2 { cut 0 { call 099; } }", 5, 29);
        Checks.due("one that comes later", Checks.keeper("on 1 { call 1; } on 1 { }").about(0), 2);
        Checks.dueFault("on 1 { call 5; } on 1 { say }", 1, 28);
        Checks.dueFault("on 1 { call 5; } on 1 { } on 8 { }", 2, 29);
    }

    private static void theFirstFaultCounts() {
        Checks.dueFault("on 1 { ask 8 1; zzz }", 2, 11);
        Checks.dueFault("on 1 { zzz ask 8 1; }", 1, 7);
        Checks.dueFault("on 9 @", 2, 3);
        Checks.dueFault("@ on 9", 1, 0);
    }

    private static void theProgramBeforeStays() {
        SealKeeper x = Checks.keeper("on 1 { say 5; } on 2 { }");
        x.run(0, 10);
        x.ahead(0);
        Checks.due("a faulty one", Checks.read(x, "on 3 { ask 1 1; call 0; say 7; keep 9; }"), -136);
        Checks.due("fault()", x.fault(), 2);
        Checks.due("the tape is empty", x.count(0), 0);
        Checks.due("about(0)", x.about(0), 2);
        Checks.due("about(1)", x.about(1), 1);
        Checks.due("about(2)", x.about(2), 0);
        Checks.due("step(0, 2)", x.step(0, 2), 5);
        Checks.due("ran(0) stays", x.ran(0), 1);
        Checks.due("told(0) stays", x.told(0), 1);
        Checks.due("walked(0, 0) stays", x.walked(0, 0), 1);
        Checks.due("pair stays", x.pair(0, 0, 0, 0), 1);
        Checks.due("run goes on", x.run(0, 10), 0);
        Checks.dueNotes(x, "of the program before", 5);
        Checks.due("an empty text", x.program(), -100);
        Checks.due("its fault", x.fault(), 1);
        Checks.due("a good one", Checks.read(x, "on 3 { }"), 1);
        Checks.due("without fault", x.fault(), 0);
    }

    private static void theProgramIsReplaced() {
        SealKeeper x = Checks.keeper("on 1 { say 5; cut 3 { ask 1 1; } } on 2 { }");
        x.rule(1, 1, 4);
        x.bits(3, 2);
        x.run(0, 10);
        x.ahead(0);
        Checks.due("the next one", Checks.read(x, "on 4 { back; }"), 1);
        Checks.due("about(0)", x.about(0), 1);
        Checks.due("about(1)", x.about(1), 1);
        Checks.due("about(2)", x.about(2), 0);
        Checks.due("about(3)", x.about(3), 1);
        Checks.due("no run since", x.ran(0), SealKeeper.NONE);
        Checks.due("nothing is kept", x.told(0), SealKeeper.STATE);
        Checks.due("nothing is kept", x.walked(0, 0), SealKeeper.STATE);
        Checks.due("nothing is kept", x.pair(0, 0, 0, 0), SealKeeper.STATE);
        Checks.due("the rules stay", x.count(3), 1);
        Checks.due("the bits stay", x.count(1), 2);
        Checks.due("no word empties the notes", x.count(2), 1);
        Checks.due("no word empties the notes", x.note(0), 5);
    }

    private static void manyProgramsInTurn() {
        SealKeeper x = new SealKeeper();
        for (int i = 0; i < 4; i++) {
            Checks.due("a long one", Checks.read(x, "on 1 { " + "ask 1 1;".repeat(90) + " cut 1 { cut 2 { } } } on 1 { }"), 2);
            Checks.due("about(1)", x.about(1), 92);
            Checks.due("about(2)", x.about(2), 90);
            Checks.due("about(3)", x.about(3), 3);
            Checks.due("a short one", Checks.read(x, "on 2 { say 1; }"), 1);
            Checks.due("about(1)", x.about(1), 1);
            Checks.due("about(2)", x.about(2), 0);
            Checks.due("about(3)", x.about(3), 1);
            Checks.due("step(0, 3)", x.step(0, 3), SealKeeper.NONE);
            Checks.due("step(1, 0)", x.step(1, 0), SealKeeper.OUTSIDE);
            Checks.due("an empty one", Checks.read(x, "on 2 { }"), 1);
            Checks.due("about(1)", x.about(1), 0);
            Checks.due("about(3)", x.about(3), 1);
        }
    }

    private static void outside() {
        SealKeeper x = new SealKeeper();
        for (int what : new int[] {-1, 4, Integer.MAX_VALUE, Integer.MIN_VALUE}) {
            Checks.due("outside comes ahead of state", x.about(what), SealKeeper.OUTSIDE);
            Checks.due("state comes ahead of outside", x.step(0, what), SealKeeper.STATE);
        }
        Checks.read(x, "on 1 { say 5; }");
        for (int wrong : new int[] {-1, 4, Integer.MAX_VALUE, Integer.MIN_VALUE}) {
            Checks.due("about(" + wrong + ")", x.about(wrong), SealKeeper.OUTSIDE);
            Checks.due("step(0, " + wrong + ")", x.step(0, wrong), SealKeeper.OUTSIDE);
            Checks.due("step(" + wrong + ", 0)", x.step(wrong, 0), SealKeeper.OUTSIDE);
        }
        Checks.due("step(1, 0)", x.step(1, 0), SealKeeper.OUTSIDE);
        Checks.read(x, "on 1 { }");
        Checks.due("no step", x.step(0, 0), SealKeeper.OUTSIDE);
    }
}
