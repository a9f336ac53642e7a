import java.util.ArrayList;
import java.util.List;
import java.util.function.Consumer;
import java.util.function.ToIntFunction;

/** Two keepers with the same calls behind them, of which one gets a call more that is to change nothing. */
final class Twins {
    private Twins() {
    }

    static void dueUnchanged(String call, Consumer<SealKeeper> before, ToIntFunction<SealKeeper> refused, int answer) {
        SealKeeper one = new SealKeeper();
        before.accept(one);
        Checks.due(call, refused.applyAsInt(one), answer);
        SealKeeper two = new SealKeeper();
        before.accept(two);
        dueSame("after " + call, one, two);
    }

    /** All that can be asked of both has to be the same; they are changed by the asking. */
    static void dueSame(String what, SealKeeper one, SealKeeper two) {
        Answers got = new Answers(one);
        Answers want = new Answers(two);
        Checks.due(what + ": as many answers", got.calls.size(), want.calls.size());
        for (int i = 0; i < Math.min(got.calls.size(), want.calls.size()); i++) {
            Checks.due(what + ": " + got.calls.get(i), got.answers.get(i), want.answers.get(i));
        }
    }

    /** What a keeper answers; some 300 calls, so that it stays below the 512 that are promised. */
    private static final class Answers {
        private static final int SOME_STEPS = 6, SOME_NOTES = 24;
        final List<String> calls = new ArrayList<>();
        final List<Integer> answers = new ArrayList<>();
        private final SealKeeper x;

        Answers(SealKeeper x) {
            this.x = x;
            counts();
            texts();
            runs();
            aheads();
            add("run anew", x.run(0, 3000));
            runs();
            add("ahead anew", x.ahead(0));
            aheads();
            rules();
            add("forget", x.forget());
            add("program", x.program());
            texts();
        }

        private void add(String call, int answer) {
            calls.add(call);
            answers.add(answer);
        }

        private void counts() {
            for (int what = 0; what < 4; what++) {
                add("count(" + what + ")", x.count(what));
            }
        }

        private void texts() {
            add("fault()", x.fault());
            for (int what = 0; what < 4; what++) {
                add("about(" + what + ")", x.about(what));
                for (int s = 0; s < SOME_STEPS; s++) {
                    add("step(" + s + ", " + what + ")", x.step(s, what));
                }
            }
        }

        private void runs() {
            for (int what = 0; what < 8; what++) {
                add("ran(" + what + ")", x.ran(what));
            }
            for (int i = 0; i < SOME_NOTES; i++) {
                add("note(" + i + ")", x.note(i));
            }
        }

        private void aheads() {
            for (int what = 0; what < 5; what++) {
                add("told(" + what + ")", x.told(what));
            }
            for (int s = 0; s < SOME_STEPS; s++) {
                add("walked(" + s + ", 0)", x.walked(s, 0));
                add("walked(" + s + ", 1)", x.walked(s, 1));
            }
            for (int level = 0; level < 10; level += 3) {
                add("pair(1, 0, 0, " + level + ")", x.pair(1, 0, 0, level));
            }
        }

        private void rules() {
            for (int owner = 0; owner < 8; owner++) {
                for (int kind = 0; kind < 8; kind++) {
                    add("rule(" + owner + ", " + kind + ", -1)", x.rule(owner, kind, -1));
                }
            }
        }
    }
}
