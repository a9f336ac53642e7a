import java.util.Arrays;

/**
 * A keeper of rights: it reads programs whose METHODS have OWNERS, runs them while every right is judged by
 * all who stand on the STACK, and tells ahead which asks can be refused. The words in capitals are those of
 * the document.
 */
public final class SealKeeper {
    public static final int NONE = -1, OUTSIDE = -3, STATE = -4, FULL = -5, MANY = -6;

    private static final int MOST_BYTES = 1200, BYTES_FED = 20, MOST_BITS = 400, MOST_TURNS = 3000;
    private static final int MOST_METHODS = 20, MOST_STEPS = 200, MOST_BLOCKS = 12;
    private static final int MOST_OPEN = 40, MOST_PUT_OFF = 20, MOST_PAIRS = 300;
    private static final int OWNERS = 8, KINDS = 8, LEVELS = 10, SLOTS = 4;

    /** No loop that is bounded by this can come near it; it only lets its end be seen. */
    private static final int FAR = 1000000;

    private static final int ASK = 0, CALL = 1, LEND = 2, CUT = 3, KEEP = 4, UNDER = 5, LATER = 6, TRY = 7,
            LOOP = 8, SAY = 9, IF = 10, EITHER = 11, BACK = 12;

    private final Row tape = new Row(MOST_BYTES);
    private final Row input = new Row(MOST_BITS);
    private final Row notes = new Row(MOST_TURNS);
    private final Rules rules = new Rules();
    private Program current = new Program();
    private Program spare = new Program();
    private final Reader reader = new Reader(spare);
    private final Runner runner = new Runner(current, rules, input, notes);
    private final Foresight foresight = new Foresight(current, rules);

    public SealKeeper() {
    }

    public int feed(int a, int b, int c, int d, int e) {
        if (!tape.hasRoomFor(BYTES_FED)) {
            return FULL;
        }
        addBytes(a);
        addBytes(b);
        addBytes(c);
        addBytes(d);
        addBytes(e);
        return tape.size;
    }

    private void addBytes(int number) {
        for (int shift = 24; shift >= 0; shift -= 8) {
            tape.add(number >>> shift & 255);
        }
    }

    public int trim(int n) {
        if (!within(n, tape.size + 1)) {
            return OUTSIDE;
        }
        tape.cutTo(n);
        return n;
    }

    public int program() {
        boolean sound = reader.readInto(spare, tape);
        tape.cutTo(0);
        if (!sound) {
            return -100 - reader.faultAt;
        }
        Program before = current;
        current = spare;
        spare = before;
        runner.hasRun = false;
        foresight.kept = false;
        return current.methods;
    }

    public int fault() {
        return reader.faultFound;
    }

    public int rule(int owner, int kind, int level) {
        if (!within(owner, OWNERS) || !within(kind, KINDS) || level < NONE || level >= LEVELS) {
            return OUTSIDE;
        }
        return rules.replace(owner, kind, level);
    }

    public int bits(int v, int n) {
        if (n < 1 || n > 32) {
            return OUTSIDE;
        }
        if (!input.hasRoomFor(n)) {
            return FULL;
        }
        for (int i = 0; i < n; i++) {
            input.add(v >>> i & 1);
        }
        return input.size;
    }

    public int forget() {
        int before = input.size;
        input.cutTo(0);
        return before;
    }

    public int about(int what) {
        if (!within(what, 4)) {
            return OUTSIDE;
        }
        if (!hasProgram()) {
            return STATE;
        }
        switch (what) {
            case 0: return current.methods;
            case 1: return current.steps;
            case 2: return current.countOf(ASK);
            default: return current.deepest;
        }
    }

    public int step(int step, int what) {
        if (!hasProgram()) {
            return STATE;
        }
        if (!within(step, current.steps) || !within(what, 4)) {
            return OUTSIDE;
        }
        switch (what) {
            case 0: return current.word[step];
            case 1: return current.method[step];
            case 2: return current.first[step];
            default: return current.second[step];
        }
    }

    public int run(int method, int turns) {
        if (!hasProgram()) {
            return STATE;
        }
        if (!within(method, current.methods) || !within(turns, MOST_TURNS + 1)) {
            return OUTSIDE;
        }
        return runner.execute(current, method, turns);
    }

    public int ran(int what) {
        if (!within(what, Runner.TALLIES)) {
            return OUTSIDE;
        }
        return runner.hasRun ? runner.tally[what] : NONE;
    }

    public int note(int i) {
        return notes.at(i);
    }

    public int ahead(int method) {
        if (!hasProgram() || !current.canBeForetold()) {
            return STATE;
        }
        if (!within(method, current.methods)) {
            return OUTSIDE;
        }
        return foresight.foretell(current, method);
    }

    public int walked(int step, int what) {
        if (!foresight.kept) {
            return STATE;
        }
        if (!within(what, 2) || !within(step, current.steps)) {
            return OUTSIDE;
        }
        return what == 0 ? foresight.passed[step] : foresight.open[step];
    }

    public int told(int what) {
        if (!foresight.kept) {
            return STATE;
        }
        switch (what) {
            case 0: return foresight.rootCan(Foresight.END | Foresight.GO_BACK);
            case 1: return foresight.rootCan(Foresight.FAIL);
            case 2: return sum(foresight.passed);
            case 3: return sum(foresight.open);
            case 4: return foresight.methodsThatCame();
            default: return OUTSIDE;
        }
    }

    public int pair(int method, int k, int kind, int level) {
        if (!foresight.kept) {
            return STATE;
        }
        if (!within(method, current.methods) || k < 0 || !within(kind, KINDS) || !within(level, LEVELS)) {
            return OUTSIDE;
        }
        return foresight.refuser(method, k, kind, level);
    }

    public int count(int what) {
        switch (what) {
            case 0: return tape.size;
            case 1: return input.size;
            case 2: return notes.size;
            case 3: return rules.given();
            default: return OUTSIDE;
        }
    }

    private boolean hasProgram() {
        return current.methods > 0;
    }

    private static boolean within(int number, int end) {
        return number >= 0 && number < end;
    }

    private static int sum(int[] flags) {
        int total = 0;
        for (int flag : flags) {
            total += flag;
        }
        return total;
    }

    /** Numbers one behind the other, none of them below 0, so that NONE can stand for one that there is not. */
    private static final class Row {
        private final int[] cells;
        int size;

        Row(int most) {
            cells = new int[Math.max(most, 0)];
        }

        boolean hasRoomFor(int more) {
            return more <= cells.length - size;
        }

        void add(int cell) {
            if (within(size, cells.length)) {
                cells[size] = cell;
                size++;
            }
        }

        int at(int i) {
            return i >= 0 && i < size ? cells[i] : NONE;
        }

        void cutTo(int n) {
            size = Math.max(0, Math.min(n, size));
        }
    }

    /** The RULES of all OWNERS. */
    private static final class Rules {
        private final int[] levels = new int[OWNERS * KINDS];

        Rules() {
            Arrays.fill(levels, NONE);
        }

        int of(int owner, int kind) {
            return within(owner, OWNERS) && within(kind, KINDS) ? levels[owner * KINDS + kind] : NONE;
        }

        int replace(int owner, int kind, int level) {
            int before = of(owner, kind);
            if (within(owner, OWNERS) && within(kind, KINDS)) {
                levels[owner * KINDS + kind] = level;
            }
            return before;
        }

        int given() {
            int total = 0;
            for (int level : levels) {
                total += level == NONE ? 0 : 1;
            }
            return total;
        }
    }

    /** A program as it was read: its METHODS, and its STEPS as a tree. */
    private static final class Program {
        final int[] owner = new int[MOST_METHODS];
        /** The first STEP of a METHOD's block, NONE for an empty one. */
        final int[] start = new int[MOST_METHODS];
        final int[] word = new int[MOST_STEPS];
        final int[] method = new int[MOST_STEPS];
        final int[] first = new int[MOST_STEPS];
        final int[] second = new int[MOST_STEPS];
        /** The STEP behind it in the same block, NONE for the last one. */
        final int[] next = new int[MOST_STEPS];
        /** The first STEPS of its first and its second block, NONE for an empty one. */
        final int[] inner = new int[MOST_STEPS];
        final int[] other = new int[MOST_STEPS];
        int methods;
        int steps;
        int deepest;

        void clear() {
            methods = 0;
            steps = 0;
            deepest = 0;
        }

        int addMethod(int itsOwner) {
            int m = methods;
            if (!within(m, MOST_METHODS)) {
                return NONE;
            }
            owner[m] = itsOwner;
            start[m] = NONE;
            methods++;
            return m;
        }

        int addStep(int itsWord) {
            int s = steps;
            if (!within(s, MOST_STEPS)) {
                return NONE;
            }
            word[s] = itsWord;
            method[s] = methods - 1;
            first[s] = NONE;
            second[s] = NONE;
            next[s] = NONE;
            inner[s] = NONE;
            other[s] = NONE;
            steps++;
            return s;
        }

        int ownerOf(int m) {
            return within(m, methods) ? owner[m] : NONE;
        }

        int startOf(int m) {
            return within(m, methods) ? start[m] : NONE;
        }

        boolean hasStep(int s) {
            return within(s, steps);
        }

        int countOf(int itsWord) {
            int total = 0;
            for (int s = 0; s < steps; s++) {
                total += word[s] == itsWord ? 1 : 0;
            }
            return total;
        }

        boolean canBeForetold() {
            return countOf(KEEP) + countOf(UNDER) + countOf(LATER) == 0;
        }
    }

    /** Cuts a text into tokens; those that can stand nowhere are tokens too, as only the first FAULT counts. */
    private static final class Tokens {
        static final int ELSE = 13, OR = 14, ON = 15, OPEN = 16, CLOSE = 17, SEMICOLON = 18, WRONG = 19, END = 20;
        /** A number's token is this and the number. */
        static final int NUMBERS = 100;

        private static final int WORDS = 16, CELL = 6, MOST_DIGITS = 3;
        /** Words in cells of one width, each at the place of its token's number. */
        private static final String CELLS =
                "ask   call  lend  cut   keep  under later try   loop  say   if    eitherback  else  or    on    ";

        private final int[] token = new int[MOST_BYTES + 1];
        private final int[] at = new int[MOST_BYTES + 1];
        private int size;

        void cut(Row text) {
            size = 0;
            int place = 0;
            for (int i = 0; i < MOST_BYTES && place < text.size; i++) {
                int b = text.at(place);
                int end = place + 1;
                if (isLetter(b)) {
                    end = endOfWord(text, place);
                    add(wordOf(text, place, end), place);
                } else if (isDigit(b)) {
                    end = endOfNumber(text, place);
                    add(numberOf(text, place, end), place);
                } else if (b != ' ' && b != '\n') {
                    add(signOf(b), place);
                }
                place = end;
            }
            add(END, text.size);
        }

        int tokenAt(int i) {
            return i >= 0 && i < size ? token[i] : END;
        }

        int placeOf(int i) {
            return i >= 0 && i < size ? at[i] : 0;
        }

        private void add(int itsToken, int place) {
            if (within(size, MOST_BYTES + 1)) {
                token[size] = itsToken;
                at[size] = place;
                size++;
            }
        }

        private static boolean isLetter(int b) {
            return b >= 'a' && b <= 'z';
        }

        private static boolean isDigit(int b) {
            return b >= '0' && b <= '9';
        }

        private static int endOfWord(Row text, int from) {
            int end = from;
            while (end < text.size && isLetter(text.at(end))) {
                end++;
            }
            return end;
        }

        private static int endOfNumber(Row text, int from) {
            int end = from;
            while (end < text.size && isDigit(text.at(end))) {
                end++;
            }
            return end;
        }

        private static int wordOf(Row text, int from, int end) {
            if (end - from > CELL) {
                return WRONG;
            }
            for (int w = 0; w < WORDS; w++) {
                if (isWord(w, text, from, end)) {
                    return w;
                }
            }
            return WRONG;
        }

        private static boolean isWord(int w, Row text, int from, int end) {
            for (int i = 0; i < CELL; i++) {
                int place = w * CELL + i;
                int letter = from + i < end ? text.at(from + i) : ' ';
                if (!within(place, CELLS.length()) || CELLS.charAt(place) != letter) {
                    return false;
                }
            }
            return true;
        }

        private static int numberOf(Row text, int from, int end) {
            if (end - from > MOST_DIGITS) {
                return WRONG;
            }
            int number = 0;
            for (int i = from; i < end; i++) {
                number = number * 10 + text.at(i) - '0';
            }
            return NUMBERS + number;
        }

        private static int signOf(int b) {
            switch (b) {
                case '{': return OPEN;
                case '}': return CLOSE;
                case ';': return SEMICOLON;
                default: return WRONG;
            }
        }
    }

    /** Reads a text into a Program, up to its first FAULT. */
    private static final class Reader {
        private static final int NO_FAULT = 0, NOT_THERE = 1, NOT_AS_TOLD = 2, TOO_DEEP = 3, TOO_MANY = 4, MISSING = 5;
        /** What readBlock and readStep answer at a FAULT: no step's number, nor NONE. */
        private static final int BROKEN = -2;

        /** The highest numbers that may stand behind each word of a step, NONE where no number stands. */
        private static final int[] MOST_FIRST = {7, 99, 7, 7, 3, 3, 99, NONE, 99, 999, 7, NONE, NONE};
        private static final int[] MOST_SECOND = {9, NONE, 9, NONE, NONE, NONE, NONE, NONE, NONE, NONE, 9, NONE, NONE};
        private static final int[] BLOCKS = {0, 0, 1, 1, 0, 1, 0, 2, 1, 0, 2, 2, 0};

        private final Tokens tokens = new Tokens();
        /** The tokens of the STEPS' first numbers. */
        private final int[] firstToken = new int[MOST_STEPS];
        private Program into;
        private int now;
        private int faultToken;
        int faultFound;
        int faultAt;

        Reader(Program into) {
            this.into = into;
        }

        boolean readInto(Program program, Row text) {
            into = program;
            into.clear();
            tokens.cut(text);
            now = 0;
            faultFound = NO_FAULT;
            boolean sound = readMethod();
            for (int m = 1; m <= MOST_METHODS && sound && tokens.tokenAt(now) != Tokens.END; m++) {
                sound = readMethod();
            }
            sound = sound && allMethodsAreThere();
            faultAt = sound ? 0 : tokens.placeOf(faultToken);
            return sound;
        }

        private int broken(int itsFault, int itsToken) {
            faultFound = itsFault;
            faultToken = itsToken;
            return BROKEN;
        }

        private boolean readMethod() {
            if (!take(Tokens.ON)) {
                return false;
            }
            if (into.methods >= MOST_METHODS) {
                broken(TOO_MANY, now - 1);
                return false;
            }
            int owner = readNumber(OWNERS - 1);
            if (owner == BROKEN) {
                return false;
            }
            int m = into.addMethod(owner);
            int start = readBlock(1);
            if (start == BROKEN || !within(m, MOST_METHODS)) {
                return false;
            }
            into.start[m] = start;
            return true;
        }

        /** Goes behind the token that is due; at another one there is a FAULT. */
        private boolean take(int due) {
            if (tokens.tokenAt(now) != due) {
                broken(NOT_THERE, now);
                return false;
            }
            now++;
            return true;
        }

        private int readNumber(int most) {
            int number = tokens.tokenAt(now) - Tokens.NUMBERS;
            if (number < 0) {
                return broken(NOT_THERE, now);
            }
            if (number > most) {
                return broken(NOT_AS_TOLD, now);
            }
            now++;
            return number;
        }

        /** Answers the block's first STEP, NONE if it is empty. */
        private int readBlock(int depth) {
            if (!take(Tokens.OPEN)) {
                return BROKEN;
            }
            if (depth > MOST_BLOCKS) {
                return broken(TOO_DEEP, now - 1);
            }
            into.deepest = Math.max(into.deepest, depth);
            int first = NONE;
            int last = NONE;
            for (int i = 0; i <= MOST_STEPS && tokens.tokenAt(now) != Tokens.CLOSE; i++) {
                int s = readStep(depth);
                if (!into.hasStep(s)) {
                    return BROKEN;
                }
                if (into.hasStep(last)) {
                    into.next[last] = s;
                } else {
                    first = s;
                }
                last = s;
            }
            return take(Tokens.CLOSE) ? first : BROKEN;
        }

        private int readStep(int depth) {
            int word = tokens.tokenAt(now);
            if (word < ASK || word > BACK) {
                return broken(NOT_THERE, now);
            }
            if (into.steps >= MOST_STEPS) {
                return broken(TOO_MANY, now);
            }
            int s = into.addStep(word);
            now++;
            return into.hasStep(s) && readNumbers(s, word) && readRest(s, word, depth) ? s : BROKEN;
        }

        private boolean readNumbers(int s, int word) {
            if (!within(word, MOST_FIRST.length) || !within(word, MOST_SECOND.length) || !within(s, firstToken.length)) {
                return false;
            }
            firstToken[s] = now;
            if (MOST_FIRST[word] != NONE) {
                into.first[s] = readNumber(MOST_FIRST[word]);
            }
            if (into.first[s] != BROKEN && MOST_SECOND[word] != NONE) {
                into.second[s] = readNumber(MOST_SECOND[word]);
            }
            return into.first[s] != BROKEN && into.second[s] != BROKEN;
        }

        private boolean readRest(int s, int word, int depth) {
            int blocks = within(word, BLOCKS.length) ? BLOCKS[word] : 0;
            if (blocks == 0) {
                return take(Tokens.SEMICOLON);
            }
            into.inner[s] = readBlock(depth + 1);
            if (blocks == 1 || into.inner[s] == BROKEN) {
                return into.inner[s] != BROKEN;
            }
            if (!take(word == EITHER ? Tokens.OR : Tokens.ELSE)) {
                return false;
            }
            into.other[s] = readBlock(depth + 1);
            return into.other[s] != BROKEN;
        }

        private boolean allMethodsAreThere() {
            for (int s = 0; s < into.steps; s++) {
                boolean named = into.word[s] == CALL || into.word[s] == LATER;
                if (named && into.first[s] >= into.methods) {
                    broken(MISSING, firstToken[s]);
                    return false;
                }
            }
            return true;
        }
    }

    /** The ENTRIES of a run. None is ever changed, so a STACK as it is is told by its latest ENTRY. */
    private static final class Stacks {
        /** Each TURN, and each JOB as it begins, makes at most one ENTRY. */
        private static final int MOST_ENTRIES = MOST_TURNS + MOST_PUT_OFF + 1;

        private final Rules rules;
        private Program program;
        /** The STEP of lend, cut or under; or, below 0, that of a METHOD: -1 less the METHOD. */
        private final int[] entry = new int[MOST_ENTRIES];
        /** The ENTRY at which judging goes on: for under the latest of what its SLOT kept. */
        private final int[] below = new int[MOST_ENTRIES];
        private int size;

        Stacks(Program program, Rules rules) {
            this.program = program;
            this.rules = rules;
        }

        void clear(Program itsProgram) {
            program = itsProgram;
            size = 0;
        }

        int withMethod(int m, int stack) {
            return add(-1 - m, stack);
        }

        int withBlock(int s, int stack) {
            return add(s, stack);
        }

        private int add(int itsEntry, int itsBelow) {
            if (!within(size, MOST_ENTRIES)) {
                return NONE;
            }
            entry[size] = itsEntry;
            below[size] = itsBelow;
            size++;
            return size - 1;
        }

        /** The OWNER who refuses, NONE if the right is granted. */
        int refuser(int stack, int kind, int level) {
            int at = stack;
            for (int left = MOST_ENTRIES; left > 0 && within(at, size); left--) {
                int e = entry[at];
                boolean isBlock = program.hasStep(e);
                int word = isBlock ? program.word[e] : CALL;
                boolean sameKind = isBlock && program.first[e] == kind;
                int owner = program.ownerOf(isBlock ? program.method[e] : -1 - e);
                boolean has = rules.of(owner, kind) >= level;
                if (word == CUT && sameKind) {
                    return owner;
                }
                if (word == LEND && sameKind && program.second[e] >= level) {
                    return has ? NONE : owner;
                }
                if (word != CUT && word != LEND && !has) {
                    return owner;
                }
                at = below[at];
            }
            return NONE;
        }
    }

    /** The blocks that are open in a JOB, the latest on top. */
    private static final class Frames {
        static final int OF_METHOD = 0, GUARDED = 1, REPEATED = 2, PLAIN = 3;
        private static final int MOST_FRAMES = MOST_OPEN * MOST_BLOCKS;

        private final int[] role = new int[MOST_FRAMES];
        /** The STEP whose block it is. */
        private final int[] opener = new int[MOST_FRAMES];
        private final int[] next = new int[MOST_FRAMES];
        private final int[] stack = new int[MOST_FRAMES];
        private final int[] timesLeft = new int[MOST_FRAMES];
        private int depth;

        void clear() {
            depth = 0;
        }

        boolean isEmpty() {
            return depth <= 0;
        }

        void push(int itsRole, int itsOpener, int firstStep, int itsStack) {
            if (depth >= 0 && depth < MOST_FRAMES) {
                role[depth] = itsRole;
                opener[depth] = itsOpener;
                next[depth] = firstStep;
                stack[depth] = itsStack;
                timesLeft[depth] = 0;
                depth++;
            }
        }

        void pop() {
            if (depth > 0) {
                depth--;
            }
        }

        int topRole() {
            return depth > 0 ? role[depth - 1] : NONE;
        }

        int topOpener() {
            return depth > 0 ? opener[depth - 1] : NONE;
        }

        int topNext() {
            return depth > 0 ? next[depth - 1] : NONE;
        }

        int topStack() {
            return depth > 0 ? stack[depth - 1] : NONE;
        }

        int topTimesLeft() {
            return depth > 0 ? timesLeft[depth - 1] : NONE;
        }

        void goTo(int step) {
            if (depth > 0) {
                next[depth - 1] = step;
            }
        }

        void setTimesLeft(int times) {
            if (depth > 0) {
                timesLeft[depth - 1] = times;
            }
        }
    }

    /** Does RUNS. The blocks that are open stand in Frames, as calls of Java's own could go too deep. */
    private static final class Runner {
        static final int TALLIES = 8;
        private static final int TURNS = 0, JOBS = 1, FAILURES = 2, JOBS_FAILED = 3, MOST_METHODS_OPEN = 4,
                BITS_TAKEN = 5, NOTES = 6, JUDGED = 7;
        private static final int GOING_ON = -1, DONE = 0, SPENT = 1, DEEP = 2, CROWDED = 3;

        private final Row input;
        private final Row notes;
        private final Stacks stacks;
        private final Frames frames = new Frames();
        private final int[] slots = new int[SLOTS];
        /** The JOBS in their order, the one that was asked for first. */
        private final int[] jobMethod = new int[MOST_PUT_OFF + 1];
        private final int[] jobBase = new int[MOST_PUT_OFF + 1];
        final int[] tally = new int[TALLIES];
        boolean hasRun;
        private Program program;
        private int jobs;
        private int turnsTold;
        private int methodsOpen;
        private int end;

        Runner(Program program, Rules rules, Row input, Row notes) {
            this.program = program;
            this.input = input;
            this.notes = notes;
            stacks = new Stacks(program, rules);
        }

        int execute(Program itsProgram, int method, int turns) {
            begin(itsProgram, turns);
            putOff(method, NONE);
            for (int i = 0; i < FAR && end == GOING_ON; i++) {
                if (frames.isEmpty()) {
                    beginJob();
                } else if (program.hasStep(frames.topNext())) {
                    beginTurn(frames.topNext());
                } else {
                    endBlock();
                }
            }
            tally[NOTES] = notes.size;
            return end;
        }

        private void begin(Program itsProgram, int turns) {
            program = itsProgram;
            turnsTold = turns;
            jobs = 0;
            end = GOING_ON;
            hasRun = true;
            notes.cutTo(0);
            stacks.clear(itsProgram);
            frames.clear();
            Arrays.fill(slots, NONE);
            Arrays.fill(tally, 0);
        }

        private void beginJob() {
            int job = tally[JOBS];
            if (!within(job, jobs)) {
                end = DONE;
                return;
            }
            tally[JOBS]++;
            methodsOpen = 0;
            openMethod(jobMethod[job], jobBase[job]);
        }

        private void putOff(int method, int base) {
            if (within(jobs, MOST_PUT_OFF + 1)) {
                jobMethod[jobs] = method;
                jobBase[jobs] = base;
                jobs++;
            } else {
                end = CROWDED;
            }
        }

        private void openMethod(int m, int stack) {
            if (methodsOpen >= MOST_OPEN) {
                end = DEEP;
                return;
            }
            methodsOpen++;
            tally[MOST_METHODS_OPEN] = Math.max(tally[MOST_METHODS_OPEN], methodsOpen);
            frames.push(Frames.OF_METHOD, NONE, program.startOf(m), stacks.withMethod(m, stack));
        }

        private void endBlock() {
            int opener = frames.topOpener();
            int left = frames.topTimesLeft();
            if (frames.topRole() == Frames.REPEATED && left > 0 && program.hasStep(opener)) {
                frames.setTimesLeft(left - 1);
                frames.goTo(program.inner[opener]);
            } else {
                closeBlock();
            }
        }

        private void closeBlock() {
            if (frames.topRole() == Frames.OF_METHOD) {
                methodsOpen--;
            }
            frames.pop();
        }

        private void beginTurn(int s) {
            if (tally[TURNS] >= turnsTold) {
                end = SPENT;
                return;
            }
            tally[TURNS]++;
            frames.goTo(program.next[s]);
            doStep(s, program.first[s], frames.topStack());
        }

        private void doStep(int s, int number, int stack) {
            switch (program.word[s]) {
                case ASK: failIfRefused(s, judge(s, stack)); break;
                case CALL: openMethod(number, stack); break;
                case LEND:
                case CUT: open(s, program.inner[s], stacks.withBlock(s, stack)); break;
                case KEEP: keep(number, stack); break;
                case UNDER: under(s, number); break;
                case LATER: putOff(number, stack); break;
                case TRY: frames.push(Frames.GUARDED, s, program.inner[s], stack); break;
                case LOOP: repeat(s, number, stack); break;
                case SAY: notes.add(number); break;
                case IF: open(s, judge(s, stack) == NONE ? program.inner[s] : program.other[s], stack); break;
                case EITHER: open(s, takeBit() == 1 ? program.inner[s] : program.other[s], stack); break;
                default: goBack();
            }
        }

        private void open(int s, int firstStep, int stack) {
            frames.push(Frames.PLAIN, s, firstStep, stack);
        }

        /** The OWNER who refuses the RIGHT of a STEP, NONE if it is granted. */
        private int judge(int s, int stack) {
            tally[JUDGED]++;
            return stacks.refuser(stack, program.first[s], program.second[s]);
        }

        private void failIfRefused(int s, int owner) {
            if (owner != NONE) {
                fail(s, owner);
            }
        }

        private void keep(int slot, int stack) {
            if (within(slot, slots.length)) {
                slots[slot] = stack;
            }
        }

        private void under(int s, int slot) {
            int kept = within(slot, slots.length) ? slots[slot] : NONE;
            if (kept == NONE) {
                fail(s, NONE);
            } else {
                open(s, program.inner[s], stacks.withBlock(s, kept));
            }
        }

        private void repeat(int s, int times, int stack) {
            // Rounds of an empty block have no TURNS that could bound them.
            if (times > 0 && program.inner[s] != NONE) {
                frames.push(Frames.REPEATED, s, program.inner[s], stack);
                frames.setTimesLeft(times - 1);
            }
        }

        private int takeBit() {
            int bit = input.at(tally[BITS_TAKEN]);
            if (bit != NONE) {
                tally[BITS_TAKEN]++;
            }
            return bit;
        }

        private void goBack() {
            for (int left = Frames.MOST_FRAMES; left > 0 && frames.topRole() != Frames.OF_METHOD; left--) {
                closeBlock();
            }
            closeBlock();
        }

        /** The owner is NONE where no one refused. */
        private void fail(int s, int owner) {
            notes.add(10000 + 1000 * (owner + 1) + s);
            tally[FAILURES]++;
            for (int left = Frames.MOST_FRAMES; left > 0 && !frames.isEmpty(); left--) {
                int role = frames.topRole();
                int opener = frames.topOpener();
                closeBlock();
                if (role == Frames.GUARDED && program.hasStep(opener)) {
                    open(opener, program.other[opener], frames.topStack());
                    return;
                }
            }
            tally[JOBS_FAILED]++;
        }
    }

    /**
     * Tells AHEAD. What a STACK grants is held as a long for each KIND, four bits for each LEVEL, the lowest
     * LEVEL highest: 0 if it is granted, else 1 more than the OWNER who refuses. So longs compare as the
     * document compares rights.
     */
    private static final class Foresight {
        static final int END = 1, FAIL = 2, GO_BACK = 4;
        private static final long ALL_LEVELS = 0xFFFFFFFFFFL, ONE_EACH = 0x1111111111L;
        /** How many longs hold a bit for each PAIR. */
        private static final int PAIR_BITS = (MOST_PAIRS + 63) >> 6;

        private final Rules rules;
        private Program program;
        private final int[] method = new int[MOST_PAIRS];
        private final long[] rights = new long[MOST_PAIRS * KINDS];
        /** What is known so far of what each PAIR can; it only ever grows, up to the least sets. */
        private final int[] can = new int[MOST_PAIRS];
        /** Whether a PAIR is to be walked anew, since something that it calls can more than before. */
        private final boolean[] stale = new boolean[MOST_PAIRS];
        /** For each PAIR those that call it, a bit each. */
        private final long[] callers = new long[MOST_PAIRS * PAIR_BITS];
        /** The PAIRS by their METHODS, and then by their rights. */
        private final int[] order = new int[MOST_PAIRS];
        private final int[] pairsOf = new int[MOST_METHODS];
        /** Rights of STACKS for the blocks that are being walked, by their depth. */
        private final long[] work = new long[(MOST_BLOCKS + 1) * KINDS];
        final int[] passed = new int[MOST_STEPS];
        final int[] open = new int[MOST_STEPS];
        private int size;
        private int walking;
        private boolean tooMany;
        boolean kept;

        Foresight(Program program, Rules rules) {
            this.program = program;
            this.rules = rules;
        }

        int foretell(Program itsProgram, int asked) {
            program = itsProgram;
            size = 0;
            tooMany = false;
            Arrays.fill(pairsOf, 0);
            Arrays.fill(passed, 0);
            Arrays.fill(open, 0);
            Arrays.fill(work, 0L);
            come(asked, 0);
            boolean unsettled = true;
            for (int i = 0; i < FAR && unsettled; i++) {
                unsettled = sweep();
            }
            kept = !tooMany;
            return kept ? size : MANY;
        }

        /** Whether there was a PAIR to walk. From the latest PAIR on, since those mostly are called by earlier ones. */
        private boolean sweep() {
            boolean any = false;
            for (int p = size - 1; p >= 0 && !tooMany; p--) {
                if (stale[p]) {
                    any = true;
                    stale[p] = false;
                    walking = p;
                    System.arraycopy(rights, p * KINDS, work, 0, KINDS);
                    int before = can[p];
                    can[p] |= walkBlock(program.startOf(method[p]), 0);
                    if (can[p] != before) {
                        makeCallersStale(p);
                    }
                }
            }
            return any && !tooMany;
        }

        private void makeCallersStale(int callee) {
            if (!within(callee, MOST_PAIRS)) {
                return;
            }
            for (int p = 0; p < size; p++) {
                long bits = callers[callee * PAIR_BITS + (p >> 6)];
                stale[p] |= (bits >>> (p & 63) & 1L) == 1L;
            }
        }

        private int walkBlock(int firstStep, int depth) {
            if (depth >= MOST_BLOCKS) {
                return 0;
            }
            int sum = END;
            int s = firstStep;
            for (int left = MOST_STEPS; left > 0 && program.hasStep(s) && (sum & END) != 0; left--) {
                sum = sum & ~END | walkStep(s, depth);
                s = program.next[s];
            }
            return sum;
        }

        private int walkStep(int s, int depth) {
            passed[s] = 1;
            switch (program.word[s]) {
                case ASK: return walkAsk(s, depth);
                case CALL: return walkCall(come(program.first[s], depth));
                case LEND:
                case CUT:
                    copyDown(depth);
                    enterBlock(s, depth + 1);
                    return walkBlock(program.inner[s], depth + 1);
                case TRY: return walkTry(s, depth);
                case LOOP: return program.first[s] == 0 ? END : walkInner(program.inner[s], depth);
                case IF: return walkInner(refuserOf(s, depth) == NONE ? program.inner[s] : program.other[s], depth);
                case EITHER: return walkInner(program.inner[s], depth) | walkInner(program.other[s], depth);
                case BACK: return GO_BACK;
                default: return END;
            }
        }

        private int walkAsk(int s, int depth) {
            if (refuserOf(s, depth) == NONE) {
                return END;
            }
            open[s] = 1;
            return FAIL;
        }

        private int walkTry(int s, int depth) {
            int sum = walkInner(program.inner[s], depth);
            return (sum & FAIL) == 0 ? sum : sum & ~FAIL | walkInner(program.other[s], depth);
        }

        private int walkInner(int firstStep, int depth) {
            copyDown(depth);
            return walkBlock(firstStep, depth + 1);
        }

        private int walkCall(int callee) {
            if (!within(callee, MOST_PAIRS) || !within(walking, MOST_PAIRS)) {
                return 0;
            }
            callers[callee * PAIR_BITS + (walking >> 6)] |= 1L << (walking & 63);
            return can[callee] & FAIL | ((can[callee] & (END | GO_BACK)) == 0 ? 0 : END);
        }

        private int refuserOf(int s, int depth) {
            int i = depth * KINDS + program.first[s];
            return within(i, work.length) ? refuserAt(work[i], program.second[s]) : NONE;
        }

        private static int refuserAt(long ofKind, int level) {
            return (int) (ofKind >>> 4 * (LEVELS - 1 - level) & 15L) - 1;
        }

        private static long levelsAbove(int level) {
            return (1L << 4 * (LEVELS - 1 - level)) - 1L;
        }

        private void copyDown(int depth) {
            int from = depth * KINDS;
            if (from >= 0 && from + 2 * KINDS <= work.length) {
                System.arraycopy(work, from, work, from + KINDS, KINDS);
            }
        }

        private void enterBlock(int s, int depth) {
            int owner = program.ownerOf(program.method[s]);
            int kind = program.first[s];
            if (program.word[s] == CUT) {
                change(depth, kind, ALL_LEVELS, owner);
            } else {
                long lent = ALL_LEVELS & ~levelsAbove(program.second[s]);
                change(depth, kind, lent, NONE);
                change(depth, kind, lent & levelsAbove(rules.of(owner, kind)), owner);
            }
        }

        /** These LEVELS of a KIND are refused by the OWNER then, granted if that is NONE. */
        private void change(int depth, int kind, long levels, int owner) {
            int i = depth * KINDS + kind;
            if (within(i, work.length)) {
                work[i] = work[i] & ~levels | (owner + 1) * ONE_EACH & levels;
            }
        }

        /** The PAIR of a METHOD that is called where the STACK is the one at that depth; NONE if it is one too many. */
        private int come(int m, int depth) {
            copyDown(depth);
            int owner = program.ownerOf(m);
            for (int kind = 0; kind < KINDS; kind++) {
                change(depth + 1, kind, levelsAbove(rules.of(owner, kind)), owner);
            }
            int place = placeInOrder(m, depth + 1);
            if (within(place, size) && compare(order[place], m, depth + 1) == 0) {
                return order[place];
            }
            if (size >= MOST_PAIRS) {
                tooMany = true;
                return NONE;
            }
            return insert(m, depth + 1, place);
        }

        private int placeInOrder(int m, int depth) {
            int low = 0;
            int high = size;
            for (int i = 0; i < MOST_PAIRS && low < high; i++) {
                int middle = (low + high) >>> 1;
                if (compare(order[middle], m, depth) < 0) {
                    low = middle + 1;
                } else {
                    high = middle;
                }
            }
            return low;
        }

        /** Below 0 if the PAIR is ahead of the METHOD with the rights at that depth, 0 if it is the same. */
        private int compare(int p, int m, int depth) {
            if (p < 0 || p >= MOST_PAIRS || depth < 0 || depth > MOST_BLOCKS) {
                return 0;
            }
            if (method[p] != m) {
                return method[p] - m;
            }
            for (int kind = 0; kind < KINDS; kind++) {
                long one = rights[p * KINDS + kind];
                long two = work[depth * KINDS + kind];
                if (one != two) {
                    return one < two ? -1 : 1;
                }
            }
            return 0;
        }

        private int insert(int m, int depth, int place) {
            int p = size;
            if (!within(p, MOST_PAIRS) || !within(place, size + 1) || !within(depth, MOST_BLOCKS + 1)
                    || !within(m, MOST_METHODS)) {
                return NONE;
            }
            System.arraycopy(order, place, order, place + 1, size - place);
            order[place] = p;
            System.arraycopy(work, depth * KINDS, rights, p * KINDS, KINDS);
            method[p] = m;
            can[p] = 0;
            stale[p] = true;
            Arrays.fill(callers, p * PAIR_BITS, (p + 1) * PAIR_BITS, 0L);
            pairsOf[m]++;
            size++;
            return p;
        }

        /** 1 if the METHOD asked for can one of these, else 0. */
        int rootCan(int any) {
            return (can[0] & any) == 0 ? 0 : 1;
        }

        int methodsThatCame() {
            int total = 0;
            for (int pairs : pairsOf) {
                total += pairs == 0 ? 0 : 1;
            }
            return total;
        }

        int refuser(int m, int k, int kind, int level) {
            if (!within(m, MOST_METHODS) || !within(k, pairsOf[m])) {
                return NONE;
            }
            int place = k;
            for (int earlier = 0; earlier < m; earlier++) {
                place += pairsOf[earlier];
            }
            int i = within(place, MOST_PAIRS) ? order[place] * KINDS + kind : NONE;
            return within(i, rights.length) ? refuserAt(rights[i], level) : NONE;
        }
    }
}
