import java.nio.charset.StandardCharsets;

/** What all tests share: comparing answers, and handing texts to a keeper. */
final class Checks {
    private static int wrong = 0;
    private static String subject = "";

    private Checks() {
    }

    /** What the answers from now on are about; it is printed with those that are wrong. */
    static void about(String what) {
        subject = what.isEmpty() ? "" : what + ": ";
    }

    static void due(String call, long got, long want) {
        if (got != want) {
            wrong++;
            System.out.println(subject + call + " answered " + got + ", due is " + want);
        }
    }

    static void due(String what, boolean holds) {
        due(what, holds ? 1 : 0, 1);
    }

    /** Puts a text behind the tape; the last feed is filled up with spaces, which trim takes away. */
    static void tape(SealKeeper x, String text) {
        byte[] bytes = text.getBytes(StandardCharsets.ISO_8859_1);
        int before = x.count(0);
        for (int from = 0; from < bytes.length; from += 20) {
            x.feed(four(bytes, from), four(bytes, from + 4), four(bytes, from + 8), four(bytes, from + 12),
                    four(bytes, from + 16));
        }
        due("trim behind a text", x.trim(before + bytes.length), before + bytes.length);
    }

    private static int four(byte[] bytes, int from) {
        int number = 0;
        for (int i = from; i < from + 4; i++) {
            number = number << 8 | (i < bytes.length ? bytes[i] & 255 : ' ');
        }
        return number;
    }

    /** Reads a text as the program. */
    static int read(SealKeeper x, String text) {
        tape(x, text);
        return x.program();
    }

    /** A text that has to be without FAULT. */
    static SealKeeper keeper(String text) {
        SealKeeper x = new SealKeeper();
        int methods = read(x, text);
        due("methods of " + text, methods > 0);
        return x;
    }

    /** A keeper whose owners have all rights but those that a test takes away. */
    static SealKeeper generous(String text) {
        SealKeeper x = keeper(text);
        for (int owner = 0; owner < 8; owner++) {
            for (int kind = 0; kind < 8; kind++) {
                x.rule(owner, kind, 9);
            }
        }
        return x;
    }

    /** All OWNERS have all RIGHTS, but for these, who have none of KIND 0. */
    static SealKeeper without(String text, int... owners) {
        SealKeeper x = generous(text);
        for (int owner : owners) {
            x.rule(owner, 0, -1);
        }
        return x;
    }

    static void dueFault(String text, int fault, int place) {
        SealKeeper x = new SealKeeper();
        due("program() of '" + text + "'", read(x, text), -100 - place);
        due("fault() of '" + text + "'", x.fault(), fault);
        due("no program after '" + text + "'", x.about(0), SealKeeper.STATE);
    }

    /** A text that is without FAULT, and how many METHODS it has. */
    static void dueTaken(String text, int methods) {
        SealKeeper x = new SealKeeper();
        due("program() of '" + text + "'", read(x, text), methods);
        due("fault() of '" + text + "'", x.fault(), 0);
        due("methods of '" + text + "'", x.about(0), methods);
    }

    static void dueNotes(SealKeeper x, String what, int... notes) {
        due(what + ": count(2)", x.count(2), notes.length);
        for (int i = 0; i < notes.length; i++) {
            due(what + ": note(" + i + ")", x.note(i), notes[i]);
        }
        due(what + ": note behind the last", x.note(notes.length), SealKeeper.NONE);
    }

    /** What ran(0) .. ran(7) answer. */
    static void dueRan(SealKeeper x, String what, int... tallies) {
        for (int i = 0; i < tallies.length; i++) {
            due(what + ": ran(" + i + ")", x.ran(i), tallies[i]);
        }
    }

    static void end() {
        System.out.println(wrong == 0 ? "all answers are as due" : wrong + " answers are not as due");
        if (wrong != 0) {
            System.exit(1);
        }
    }
}
