import java.nio.charset.StandardCharsets;
import java.util.Random;

/**
 * All promises: the keeper and the model of the document get the same calls, made by a random source of a told
 * seed. Some rounds go past 512 calls, where the document leaves answers free; this keeper goes on as before.
 */
public final class AgainstModelTest {
    private static final int ROUNDS = 6000;
    private final Random random;
    private final SealKeeper x = new SealKeeper();
    private final Model m = new Model();
    private final String round;
    private int stepsLeft;

    private AgainstModelTest(int seed) {
        random = new Random(seed);
        round = "round " + seed + ": ";
    }

    public static void main(String[] args) {
        for (int seed = 0; seed < ROUNDS; seed++) {
            new AgainstModelTest(seed).play();
        }
        Checks.end();
    }

    private void play() {
        int programs = 1 + random.nextInt(3);
        for (int i = 0; i < programs; i++) {
            rules();
            bits();
            String text = random.nextInt(8) == 0 ? pairsText() : randomText();
            read(random.nextInt(3) == 0 ? spoilt(text) : text);
            for (int j = random.nextInt(3); j >= 0; j--) {
                runs();
                aheads();
                rules();
                bits();
            }
        }
    }

    private int below(int end) {
        return random.nextInt(end);
    }

    /** Mostly 0 .. end - 1, at times just or far outside of it. */
    private int around(int end) {
        switch (below(30)) {
            case 0: return -1;
            case 1: return end;
            case 2: return below(2) == 0 ? Integer.MAX_VALUE : Integer.MIN_VALUE;
            default: return end <= 0 ? 0 : below(end);
        }
    }

    private void due(String call, int got, int want) {
        Checks.due(round + call, got, want);
    }

    private void rules() {
        int generous = below(3);
        for (int i = below(40); i > 0; i--) {
            int owner = around(8);
            int kind = below(2) == 0 ? below(2) : around(8);
            int level = generous > 0 && below(3) > 0 ? 9 : around(11) - (below(2));
            due("rule", x.rule(owner, kind, level), m.rule(owner, kind, level));
        }
        due("count(3)", x.count(3), m.count(3));
    }

    private void bits() {
        if (below(4) == 0) {
            due("forget", x.forget(), m.forget());
        }
        for (int i = below(4); i > 0; i--) {
            int v = random.nextInt();
            int n = 1 + below(32);
            n = below(20) == 0 ? around(33) : n;
            due("bits", x.bits(v, n), m.bits(v, n));
        }
        due("count(1)", x.count(1), m.count(1));
    }

    private void read(String text) {
        byte[] bytes = text.getBytes(StandardCharsets.ISO_8859_1);
        for (int from = 0; from < bytes.length; from += 20) {
            int[] n = new int[5];
            for (int i = 0; i < 20; i++) {
                int b = from + i < bytes.length ? bytes[from + i] & 255 : below(256);
                n[i / 4] = n[i / 4] << 8 | b;
            }
            due("feed", x.feed(n[0], n[1], n[2], n[3], n[4]), m.feed(n));
        }
        if (below(20) != 0) {
            int n = below(20) == 0 ? around(bytes.length + 1) : bytes.length;
            due("trim", x.trim(n), m.trim(n));
        }
        due("count(0)", x.count(0), m.count(0));
        due("program of " + text, x.program(), m.program());
        due("fault of " + text, x.fault(), m.fault());
        due("count(0)", x.count(0), m.count(0));
        for (int what = -1; what < 5; what++) {
            due("about " + what, x.about(what), m.about(what));
        }
        for (int i = 0; i < 20; i++) {
            int s = around(Math.max(1, m.about(1)));
            int what = around(4);
            due("step " + s + " " + what, x.step(s, what), m.step(s, what));
        }
        due("ran", x.ran(0), m.ran(0));
        due("note", x.note(0), m.note(0));
        due("told", x.told(0), m.told(0));
    }

    private void runs() {
        for (int i = below(5); i > 0; i--) {
            int method = around(Math.max(1, m.about(0)));
            int turns = below(3) == 0 ? below(60) : below(3) == 0 ? around(3001) : 3000;
            due("run " + method + " " + turns, x.run(method, turns), m.run(method, turns));
            for (int what = -1; what < 9; what++) {
                due("ran " + what, x.ran(what), m.ran(what));
            }
            due("count(2)", x.count(2), m.count(2));
            for (int n = -1; n < Math.min(m.count(2) + 1, 300); n++) {
                due("note " + n, x.note(n), m.note(n));
            }
            due("note", x.note(m.count(2)), m.note(m.count(2)));
            due("note", x.note(m.count(2) - 1), m.note(m.count(2) - 1));
        }
    }

    private void aheads() {
        for (int i = below(4); i > 0; i--) {
            int method = around(Math.max(1, m.about(0)));
            due("ahead " + method, x.ahead(method), m.ahead(method));
            for (int what = -1; what < 6; what++) {
                due("told " + what, x.told(what), m.told(what));
            }
            for (int s = -1; s <= m.about(1); s++) {
                due("walked " + s, x.walked(s, 0), m.walked(s, 0));
                due("open " + s, x.walked(s, 1), m.walked(s, 1));
            }
            due("walked", x.walked(0, 2), m.walked(0, 2));
            due("walked", x.walked(0, -1), m.walked(0, -1));
            for (int j = 0; j < 100; j++) {
                int which = around(Math.max(1, m.about(0)));
                int k = below(3) == 0 ? around(20) : below(3);
                int kind = around(8);
                int level = around(10);
                due("pair", x.pair(which, k, kind, level), m.pair(which, k, kind, level));
            }
        }
    }

    // ---- texts

    private int methods;
    private boolean plain;
    private int kinds;

    private String randomText() {
        methods = 1 + below(below(2) == 0 ? 4 : 20);
        plain = below(2) == 0;
        kinds = 1 + below(below(2) == 0 ? 2 : 8);
        int owners = 1 + below(8);
        StringBuilder out = new StringBuilder();
        int each = Math.max(3, (20 + below(80)) / methods);
        for (int i = 0; i < methods; i++) {
            out.append("on").append(gap()).append(below(owners)).append(gap());
            stepsLeft = each;
            block(out, 1, each);
        }
        return out.toString();
    }

    /** Many METHODS that lend and cut much, so that there are many PAIRS. */
    private String pairsText() {
        StringBuilder out = new StringBuilder();
        int many = 4 + below(8);
        for (int i = 0; i < many; i++) {
            out.append("on ").append(below(8)).append('{');
            for (int j = 1 + below(3); j > 0; j--) {
                String call = "{call " + below(many) + ";}";
                switch (below(3)) {
                    case 0: out.append("either{cut ").append(below(8)).append(call).append("}or{}"); break;
                    case 1: out.append("either{lend ").append(below(8)).append(' ').append(below(10)).append(call)
                            .append("}or{}"); break;
                    default: out.append("either").append(call).append("or{}");
                }
            }
            out.append('}');
        }
        return out.length() > 1200 ? out.substring(0, 1200) : out.toString();
    }

    private String gap() {
        switch (below(12)) {
            case 0: return "\n";
            case 1: return "  ";
            default: return " ";
        }
    }

    private String none() {
        return below(10) == 0 ? gap() : "";
    }

    private void block(StringBuilder out, int depth, int most) {
        out.append('{').append(none());
        for (int i = below(most + 1) + (depth == 1 ? 1 : 0); i > 0 && stepsLeft > 0 && out.length() < 1050; i--) {
            step(out, depth);
        }
        out.append('}').append(none());
    }

    private void inner(StringBuilder out, int depth) {
        block(out, depth + 1, depth > 8 ? 1 : 4);
    }

    private void right(StringBuilder out) {
        out.append(gap()).append(below(kinds)).append(gap()).append(below(10));
    }

    private void step(StringBuilder out, int depth) {
        stepsLeft--;
        int word = below(13);
        boolean hasBlock = word == 2 || word == 3 || word == 5 || word == 7 || word == 8 || word == 10 || word == 11;
        if (depth >= 12 && hasBlock && below(40) != 0 || plain && (word == 4 || word == 5 || word == 6)) {
            word = below(2) == 0 ? 0 : 9;
        }
        if (word == 12 && below(2) == 0) {
            word = 1;
        }
        out.append(Model.WORDS.get(word));
        switch (word) {
            case 0: right(out); break;
            case 1:
            case 6: out.append(gap()).append(below(300) == 0 ? methods : below(methods)); break;
            case 2: right(out); inner(out, depth); break;
            case 3: out.append(gap()).append(below(kinds)); inner(out, depth); break;
            case 4: out.append(gap()).append(below(3)); break;
            case 5: out.append(gap()).append(below(3)); inner(out, depth); break;
            case 7: inner(out, depth); out.append("else"); inner(out, depth); break;
            case 8: out.append(gap()).append(below(3) == 0 ? below(100) : below(3)); inner(out, depth); break;
            case 9: out.append(gap()).append(below(1000)); break;
            case 10: right(out); inner(out, depth); out.append("else"); inner(out, depth); break;
            case 11: inner(out, depth); out.append("or"); inner(out, depth); break;
            default: break;
        }
        if (word == 0 || word == 1 || word == 4 || word == 6 || word == 9 || word == 12) {
            out.append(none()).append(';').append(none());
        }
    }

    /** A text with a few bytes changed, gone or new. */
    private String spoilt(String text) {
        StringBuilder out = new StringBuilder(text);
        String likely = "0123456789{};; \nabelort";
        for (int i = 1 + below(2); i > 0 && out.length() > 0; i--) {
            int at = below(out.length());
            char c = below(6) == 0 ? (char) below(256) : likely.charAt(below(likely.length()));
            switch (below(4)) {
                case 0: out.deleteCharAt(at); break;
                case 1: out.setCharAt(at, c); break;
                case 2: out.insert(at, c); break;
                default: out.setLength(at);
            }
        }
        return out.toString();
    }
}
