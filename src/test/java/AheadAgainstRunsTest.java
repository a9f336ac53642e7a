import java.util.Random;
import java.util.Set;
import java.util.TreeSet;

/**
 * Promises 11, 14, 15 and 16 together: what is told ahead is just what runs can do, whatever the BITS. Where no METHOD
 * calls one that is not behind it, every run can be made, one for each row of BITS that is taken. A say says the number
 * of its own STEP, so that THE NOTES tell which were begun.
 */
public final class AheadAgainstRunsTest {
    private static final int ROUNDS = 20000, MOST_RUNS = 300, LEAST_PROGRAMS = 12000, LEAST_OPEN = 5000;
    private static final int KINDS = 2, OWNERS = 4, MOST_DEPTH = 5, SAY = 9, ASK = 0;
    private static int programs = 0;
    private static int opened = 0;

    private final Random random;
    private final StringBuilder text = new StringBuilder();
    private final int[][] rules = new int[OWNERS][KINDS];
    private final int methods;
    private int method;
    private int steps;

    private final Set<Integer> said = new TreeSet<>();
    private final Set<Integer> refused = new TreeSet<>();
    private boolean ends;
    private boolean fails;
    private int runs;

    private AheadAgainstRunsTest(int seed) {
        random = new Random(seed);
        methods = 1 + random.nextInt(4);
    }

    public static void main(String[] args) {
        for (int seed = 0; seed < ROUNDS; seed++) {
            new AheadAgainstRunsTest(seed).play();
        }
        Checks.due("enough programs of which all runs were made: " + programs, programs >= LEAST_PROGRAMS);
        Checks.due("enough asks that were open: " + opened, opened >= LEAST_OPEN);
        Checks.end();
    }

    private void play() {
        makeRules();
        for (method = 0; method < methods; method++) {
            text.append("on ").append(random.nextInt(OWNERS));
            makeBlock(1);
        }
        if (text.length() <= 1200 && steps <= 200 && runAll("")) {
            programs++;
            opened += refused.size();
            compare();
        }
    }

    /** Whether all runs that begin with these BITS could be made to their ends. */
    private boolean runAll(String bits) {
        SealKeeper x = keeper();
        putBits(x, bits + "0");
        if (++runs > MOST_RUNS || x.run(0, 3000) != 0) {
            return false;
        }
        if (x.ran(5) > bits.length()) {
            return runAll(bits + "0") && runAll(bits + "1");
        }
        look(x);
        return true;
    }

    private void look(SealKeeper x) {
        for (int i = 0; i < x.count(2); i++) {
            int note = x.note(i);
            if (note < 10000) {
                said.add(note);
            } else {
                refused.add(note % 1000);
            }
        }
        fails |= x.ran(3) > 0;
        ends |= x.ran(3) == 0;
    }

    private void compare() {
        SealKeeper x = keeper();
        Checks.due("ahead(0) of " + text, x.ahead(0) > 0);
        Checks.due("told(0) of " + text, x.told(0), ends ? 1 : 0);
        Checks.due("told(1) of " + text, x.told(1), fails ? 1 : 0);
        Checks.due("told(3) of " + text, x.told(3), refused.size());
        for (int s = 0; s < steps; s++) {
            int word = x.step(s, 0);
            if (word == SAY) {
                Checks.due("walked(" + s + ", 0) of " + text, x.walked(s, 0), said.contains(s) ? 1 : 0);
            } else if (word == ASK) {
                Checks.due("walked(" + s + ", 1) of " + text, x.walked(s, 1), refused.contains(s) ? 1 : 0);
            }
        }
    }

    private SealKeeper keeper() {
        SealKeeper x = Checks.keeper(text.toString());
        for (int owner = 0; owner < OWNERS; owner++) {
            for (int kind = 0; kind < KINDS; kind++) {
                x.rule(owner, kind, rules[owner][kind]);
            }
        }
        return x;
    }

    private static void putBits(SealKeeper x, String bits) {
        for (int i = 0; i < bits.length(); i++) {
            x.bits(bits.charAt(i) - '0', 1);
        }
    }

    private void makeRules() {
        for (int[] ofOwner : rules) {
            for (int kind = 0; kind < KINDS; kind++) {
                ofOwner[kind] = random.nextInt(2) == 0 ? random.nextInt(11) - 1 : 9;
            }
        }
    }

    private void makeBlock(int depth) {
        text.append('{');
        makeSay();
        for (int i = random.nextInt(depth == 1 ? 6 : 3); i > 0; i--) {
            makeStep(depth);
            makeSay();
        }
        text.append('}');
    }

    private void makeSay() {
        text.append("say ").append(steps++).append(';');
    }

    private void makeStep(int depth) {
        int word = random.nextInt(depth < MOST_DEPTH ? 12 : 4);
        if (word == 1 && method + 1 >= methods) {
            word = 0;
        }
        steps++;
        switch (word) {
            case 0:
            case 3: text.append("ask ").append(right()).append(';'); break;
            case 1: text.append("call ").append(method + 1 + random.nextInt(methods - method - 1)).append(';'); break;
            case 2: text.append(random.nextInt(3) == 0 ? "back;" : "loop 0{}"); break;
            case 4: text.append("lend ").append(right()); makeBlock(depth + 1); break;
            case 5: text.append("cut ").append(random.nextInt(KINDS)); makeBlock(depth + 1); break;
            case 6: text.append("loop ").append(random.nextInt(3)); makeBlock(depth + 1); break;
            case 7:
            case 9:
            case 10: text.append("try"); makeBlocks(depth + 1, "else"); break;
            case 8: text.append("if ").append(right()); makeBlocks(depth + 1, "else"); break;
            default: text.append("either"); makeBlocks(depth + 1, "or");
        }
    }

    private void makeBlocks(int depth, String between) {
        makeBlock(depth);
        text.append(between);
        makeBlock(depth);
    }

    private String right() {
        return random.nextInt(KINDS) + " " + random.nextInt(10);
    }
}
