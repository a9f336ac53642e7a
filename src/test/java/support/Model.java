import java.util.ArrayList;
import java.util.Arrays;
import java.util.Collections;
import java.util.HashMap;
import java.util.List;
import java.util.Map;
import java.util.TreeMap;
import java.util.TreeSet;
import java.util.regex.Matcher;
import java.util.regex.Pattern;

/** The document once more, written with other means (objects, exceptions, naive sets) to be compared with. */
final class Model {
    static final List<String> WORDS = List.of("ask", "call", "lend", "cut", "keep", "under", "later", "try", "loop",
            "say", "if", "either", "back");

    static final class Fault extends RuntimeException {
        private static final long serialVersionUID = 1L;
        final int kind;
        final int place;

        Fault(int kind, int place) {
            this.kind = kind;
            this.place = place;
        }
    }

    static final class Step {
        int number;
        String word;
        Method in;
        int a = -1;
        int b = -1;
        int aPlace;
        List<Step> one = new ArrayList<>();
        List<Step> two = new ArrayList<>();
    }

    static final class Method {
        int number;
        int owner;
        List<Step> block;
    }

    static final class Text {
        final List<Method> methods = new ArrayList<>();
        final List<Step> steps = new ArrayList<>();
        int deepest;
    }

    // ---- reading

    static final class Parser {
        final String text;
        final Text out = new Text();
        int at;

        Parser(String text) {
            this.text = text;
        }

        /** The next token, "" at the end; a byte that is none is a token too. */
        String peek() {
            while (at < text.length() && (text.charAt(at) == ' ' || text.charAt(at) == '\n')) {
                at++;
            }
            Matcher m = Pattern.compile("[a-z]+|[0-9]+|.", Pattern.DOTALL).matcher(text);
            return at < text.length() && m.find(at) ? m.group() : "";
        }

        void expect(String due) {
            if (!peek().equals(due)) {
                throw new Fault(1, at);
            }
            at += due.length();
        }

        int number(int most) {
            String token = peek();
            if (!token.matches("[0-9]{1,3}")) {
                throw new Fault(1, at);
            }
            if (Integer.parseInt(token) > most) {
                throw new Fault(2, at);
            }
            at += token.length();
            return Integer.parseInt(token);
        }

        Text parse() {
            do {
                if (peek().equals("on") && out.methods.size() == 20) {
                    throw new Fault(4, at);
                }
                expect("on");
                Method m = new Method();
                m.number = out.methods.size();
                m.owner = number(7);
                out.methods.add(m);
                m.block = block(1, m);
            } while (!peek().isEmpty());
            for (Step s : out.steps) {
                if ((s.word.equals("call") || s.word.equals("later")) && s.a >= out.methods.size()) {
                    throw new Fault(5, s.aPlace);
                }
            }
            return out;
        }

        List<Step> block(int depth, Method m) {
            if (peek().equals("{") && depth > 12) {
                throw new Fault(3, at);
            }
            expect("{");
            out.deepest = Math.max(out.deepest, depth);
            List<Step> steps = new ArrayList<>();
            while (!peek().equals("}")) {
                steps.add(step(depth, m));
            }
            expect("}");
            return steps;
        }

        Step step(int depth, Method m) {
            String word = peek();
            if (!WORDS.contains(word)) {
                throw new Fault(1, at);
            }
            if (out.steps.size() == 200) {
                throw new Fault(4, at);
            }
            Step s = new Step();
            s.number = out.steps.size();
            s.word = word;
            s.in = m;
            out.steps.add(s);
            expect(word);
            peek();
            s.aPlace = at;
            switch (word) {
                case "ask" -> { s.a = number(7); s.b = number(9); expect(";"); }
                case "call", "later" -> { s.a = number(99); expect(";"); }
                case "lend" -> { s.a = number(7); s.b = number(9); s.one = block(depth + 1, m); }
                case "cut" -> { s.a = number(7); s.one = block(depth + 1, m); }
                case "keep" -> { s.a = number(3); expect(";"); }
                case "under" -> { s.a = number(3); s.one = block(depth + 1, m); }
                case "try" -> { s.one = block(depth + 1, m); expect("else"); s.two = block(depth + 1, m); }
                case "loop" -> { s.a = number(99); s.one = block(depth + 1, m); }
                case "say" -> { s.a = number(999); expect(";"); }
                case "if" -> {
                    s.a = number(7);
                    s.b = number(9);
                    s.one = block(depth + 1, m);
                    expect("else");
                    s.two = block(depth + 1, m);
                }
                case "either" -> { s.one = block(depth + 1, m); expect("or"); s.two = block(depth + 1, m); }
                default -> expect(";");
            }
            return s;
        }
    }

    // ---- state

    private String tape = "";
    private Text text;
    private int fault;
    private final int[][] rules = new int[8][8];
    private final List<Integer> bits = new ArrayList<>();
    private final List<Integer> notes = new ArrayList<>();
    private int[] ran;
    private Ahead kept;

    Model() {
        for (int[] row : rules) {
            Arrays.fill(row, -1);
        }
    }

    int feed(int... numbers) {
        if (tape.length() + 20 > 1200) {
            return -5;
        }
        StringBuilder more = new StringBuilder(tape);
        for (int n : numbers) {
            more.append((char) (n >> 24 & 255)).append((char) (n >> 16 & 255)).append((char) (n >> 8 & 255))
                    .append((char) (n & 255));
        }
        tape = more.toString();
        return tape.length();
    }

    int trim(int n) {
        if (n < 0 || n > tape.length()) {
            return -3;
        }
        tape = tape.substring(0, n);
        return n;
    }

    int program() {
        String read = tape;
        tape = "";
        try {
            text = new Parser(read).parse();
        } catch (Fault f) {
            fault = f.kind;
            return -100 - f.place;
        }
        fault = 0;
        ran = null;
        kept = null;
        return text.methods.size();
    }

    int fault() {
        return fault;
    }

    int rule(int owner, int kind, int level) {
        if (owner < 0 || owner > 7 || kind < 0 || kind > 7 || level < -1 || level > 9) {
            return -3;
        }
        int before = rules[owner][kind];
        rules[owner][kind] = level;
        return before;
    }

    int bits(int v, int n) {
        if (n < 1 || n > 32) {
            return -3;
        }
        if (bits.size() + n > 400) {
            return -5;
        }
        for (int i = 0; i < n; i++) {
            bits.add(v >> i & 1);
        }
        return bits.size();
    }

    int forget() {
        int before = bits.size();
        bits.clear();
        return before;
    }

    int about(int what) {
        if (what < 0 || what > 3) {
            return -3;
        }
        if (text == null) {
            return -4;
        }
        return switch (what) {
            case 0 -> text.methods.size();
            case 1 -> text.steps.size();
            case 2 -> (int) text.steps.stream().filter(s -> s.word.equals("ask")).count();
            default -> text.deepest;
        };
    }

    int step(int step, int what) {
        if (text == null) {
            return -4;
        }
        if (step < 0 || step >= text.steps.size() || what < 0 || what > 3) {
            return -3;
        }
        Step s = text.steps.get(step);
        return switch (what) {
            case 0 -> WORDS.indexOf(s.word);
            case 1 -> s.in.number;
            case 2 -> s.a;
            default -> s.b;
        };
    }

    // ---- runs

    /** A METHOD's entry has no step; under judges on what was kept. */
    record Entry(Step block, int owner, Entry below, Entry kept) {
    }

    static final class Failure extends RuntimeException {
        private static final long serialVersionUID = 1L;

        Failure() {
            super(null, null, false, false);
        }
    }

    static final class Back extends RuntimeException {
        private static final long serialVersionUID = 1L;

        Back() {
            super(null, null, false, false);
        }
    }

    static final class Over extends RuntimeException {
        private static final long serialVersionUID = 1L;
        final int how;

        Over(int how) {
            super(null, null, false, false);
            this.how = how;
        }
    }

    record Job(Method method, Entry base) {
    }

    /** -1 granted, else the owner. */
    int judge(Entry e, int kind, int level) {
        if (e == null) {
            return -1;
        }
        boolean has = rules[e.owner][kind] >= level;
        if (e.block == null) {
            return has ? judge(e.below, kind, level) : e.owner;
        }
        switch (e.block.word) {
            case "lend":
                if (e.block.a == kind && e.block.b >= level) {
                    return has ? -1 : e.owner;
                }
                return judge(e.below, kind, level);
            case "cut":
                return e.block.a == kind ? e.owner : judge(e.below, kind, level);
            default:
                return has ? judge(e.kept, kind, level) : e.owner;
        }
    }

    final class Running {
        final int[] tally = new int[8];
        final Entry[] slots = new Entry[4];
        final List<Job> jobs = new ArrayList<>();
        final int most;

        Running(int most) {
            this.most = most;
        }

        int run(Method first) {
            jobs.add(new Job(first, null));
            try {
                while (tally[1] < jobs.size()) {
                    Job job = jobs.get(tally[1]++);
                    try {
                        method(job.method, job.base, 1);
                    } catch (Failure f) {
                        tally[3]++;
                    }
                }
                return 0;
            } catch (Over o) {
                return o.how;
            } finally {
                tally[6] = notes.size();
            }
        }

        void method(Method m, Entry below, int open) {
            if (open > 40) {
                throw new Over(2);
            }
            tally[4] = Math.max(tally[4], open);
            try {
                block(m.block, new Entry(null, m.owner, below, null), open);
            } catch (Back b) {
                return;
            }
        }

        void block(List<Step> steps, Entry stack, int open) {
            for (Step s : steps) {
                if (tally[0] == most) {
                    throw new Over(1);
                }
                tally[0]++;
                step(s, stack, open);
            }
        }

        int judged(Step s, Entry stack) {
            tally[7]++;
            return judge(stack, s.a, s.b);
        }

        void fail(Step s, int owner) {
            tally[2]++;
            notes.add(10000 + 1000 * (owner + 1) + s.number);
            throw new Failure();
        }

        void step(Step s, Entry stack, int open) {
            switch (s.word) {
                case "ask" -> {
                    int owner = judged(s, stack);
                    if (owner >= 0) {
                        fail(s, owner);
                    }
                }
                case "call" -> method(text.methods.get(s.a), stack, open + 1);
                case "lend", "cut" -> block(s.one, new Entry(s, s.in.owner, stack, null), open);
                case "keep" -> slots[s.a] = stack;
                case "under" -> {
                    if (slots[s.a] == null) {
                        fail(s, -1);
                    }
                    block(s.one, new Entry(s, s.in.owner, stack, slots[s.a]), open);
                }
                case "later" -> {
                    if (jobs.size() == 21) {
                        throw new Over(3);
                    }
                    jobs.add(new Job(text.methods.get(s.a), stack));
                }
                case "try" -> {
                    boolean failed = false;
                    try {
                        block(s.one, stack, open);
                    } catch (Failure f) {
                        failed = true;
                    }
                    if (failed) {
                        block(s.two, stack, open);
                    }
                }
                case "loop" -> {
                    for (int i = 0; i < s.a; i++) {
                        block(s.one, stack, open);
                    }
                }
                case "say" -> notes.add(s.a);
                case "if" -> block(judged(s, stack) < 0 ? s.one : s.two, stack, open);
                case "either" -> {
                    boolean there = tally[5] < bits.size();
                    boolean first = there && bits.get(tally[5]) == 1;
                    tally[5] += there ? 1 : 0;
                    block(first ? s.one : s.two, stack, open);
                }
                default -> throw new Back();
            }
        }
    }

    int run(int method, int turns) {
        if (text == null) {
            return -4;
        }
        if (method < 0 || method >= text.methods.size() || turns < 0 || turns > 3000) {
            return -3;
        }
        notes.clear();
        Running r = new Running(turns);
        int how = r.run(text.methods.get(method));
        ran = r.tally;
        return how;
    }

    int ran(int what) {
        return what < 0 || what > 7 ? -3 : ran == null ? -1 : ran[what];
    }

    int note(int i) {
        return i < 0 || i >= notes.size() ? -1 : notes.get(i);
    }

    // ---- ahead

    /** By whom each right is refused, a character each: '0' granted, else '1' and the owner; it sorts as told. */
    record Pair(int method, String rights) {
    }

    final class Ahead {
        final Map<Pair, Integer> can = new HashMap<>();
        final List<Pair> pairs = new ArrayList<>();
        final TreeSet<Integer> walked = new TreeSet<>();
        final TreeSet<Integer> open = new TreeSet<>();
        final Map<Integer, List<String>> sorted = new TreeMap<>();
        Pair root;

        /** Whether there were no more than 300. */
        boolean find(int method) {
            char[] all = new char[80];
            Arrays.fill(all, '0');
            root = come(text.methods.get(method), new String(all));
            boolean changed = true;
            while (changed) {
                changed = false;
                for (int i = 0; i < pairs.size(); i++) {
                    if (pairs.size() > 300) {
                        return false;
                    }
                    Pair p = pairs.get(i);
                    int before = pairs.size();
                    int now = block(text.methods.get(p.method).block, p.rights);
                    changed |= now != can.get(p) || before != pairs.size();
                    can.put(p, now);
                }
            }
            for (Pair p : pairs) {
                sorted.computeIfAbsent(p.method, m -> new ArrayList<>()).add(p.rights);
            }
            sorted.values().forEach(Collections::sort);
            return pairs.size() <= 300;
        }

        String with(Step block, int owner, String below) {
            char[] now = below.toCharArray();
            char by = (char) ('1' + owner);
            for (int kind = 0; kind < 8; kind++) {
                for (int level = 0; level < 10; level++) {
                    boolean has = rules[owner][kind] >= level;
                    int i = kind * 10 + level;
                    if (block == null) {
                        now[i] = has ? now[i] : by;
                    } else if (block.word.equals("cut")) {
                        now[i] = kind == block.a ? by : now[i];
                    } else if (kind == block.a && block.b >= level) {
                        now[i] = has ? '0' : by;
                    }
                }
            }
            return new String(now);
        }

        Pair come(Method m, String below) {
            Pair p = new Pair(m.number, with(null, m.owner, below));
            if (can.putIfAbsent(p, 0) == null) {
                pairs.add(p);
            }
            return p;
        }

        /** 1 end, 2 fail, 4 back. */
        int block(List<Step> steps, String rights) {
            int sum = 0;
            for (Step s : steps) {
                walked.add(s.number);
                int c = step(s, rights);
                sum |= c & 6;
                if ((c & 1) == 0) {
                    return sum;
                }
            }
            return sum | 1;
        }

        int step(Step s, String rights) {
            boolean granted = s.b >= 0 && rights.charAt(s.a * 10 + s.b) == '0';
            switch (s.word) {
                case "ask":
                    if (!granted) {
                        open.add(s.number);
                    }
                    return granted ? 1 : 2;
                case "call":
                    int c = can.get(come(text.methods.get(s.a), rights));
                    return ((c & 5) != 0 ? 1 : 0) + (c & 2);
                case "lend", "cut":
                    return block(s.one, with(s, s.in.owner, rights));
                case "try":
                    int one = block(s.one, rights);
                    if ((one & 2) == 0) {
                        return one;
                    }
                    int two = block(s.two, rights);
                    return (one & 5) | two;
                case "loop":
                    return s.a == 0 ? 1 : block(s.one, rights);
                case "if":
                    return block(granted ? s.one : s.two, rights);
                case "either":
                    return block(s.one, rights) | block(s.two, rights);
                case "back":
                    return 4;
                default:
                    return 1;
            }
        }
    }

    int ahead(int method) {
        if (text == null || text.steps.stream().anyMatch(s -> List.of("keep", "under", "later").contains(s.word))) {
            return -4;
        }
        if (method < 0 || method >= text.methods.size()) {
            return -3;
        }
        Ahead a = new Ahead();
        kept = a.find(method) ? a : null;
        return kept == null ? -6 : a.pairs.size();
    }

    int walked(int step, int what) {
        if (kept == null) {
            return -4;
        }
        if (what < 0 || what > 1 || step < 0 || step >= text.steps.size()) {
            return -3;
        }
        return (what == 0 ? kept.walked : kept.open).contains(step) ? 1 : 0;
    }

    int told(int what) {
        if (kept == null) {
            return -4;
        }
        int c = kept.can.get(kept.root);
        return switch (what) {
            case 0 -> (c & 5) != 0 ? 1 : 0;
            case 1 -> (c & 2) != 0 ? 1 : 0;
            case 2 -> kept.walked.size();
            case 3 -> kept.open.size();
            case 4 -> kept.sorted.size();
            default -> -3;
        };
    }

    int pair(int method, int k, int kind, int level) {
        if (kept == null) {
            return -4;
        }
        if (method < 0 || method >= text.methods.size() || k < 0 || kind < 0 || kind > 7 || level < 0 || level > 9) {
            return -3;
        }
        List<String> of = kept.sorted.getOrDefault(method, List.of());
        return k < of.size() ? of.get(k).charAt(kind * 10 + level) - '1' : -1;
    }

    int count(int what) {
        return switch (what) {
            case 0 -> tape.length();
            case 1 -> bits.size();
            case 2 -> notes.size();
            case 3 -> (int) Arrays.stream(rules).flatMapToInt(Arrays::stream).filter(l -> l >= 0).count();
            default -> -3;
        };
    }
}
