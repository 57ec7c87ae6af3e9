import java.util.ArrayList;
import java.util.List;
import java.util.NoSuchElementException;

/** Calls that are refused, and that change nothing: of two objects made alike one is asked, then both answer one exam. */
final class Kept {
    private static final long THROWN = Long.MIN_VALUE;

    private Kept() { }

    interface Maker {
        EveryMeasure make();
    }

    interface Ask {
        long of(EveryMeasure x);
    }

    interface Deed {
        boolean done(EveryMeasure x);
    }

    /** Has something of all that there is: things in, out and not told, each word, silent voices, a row, half a text. */
    static EveryMeasure rich() {
        return rich("cap 1 50; b more 1 2");
    }

    static EveryMeasure rich(String onTheTape) {
        EveryMeasure x = Due.with(3, new int[][] {{80, 20, 40}, {30, 70, 50}, {50, 50, 45}, {0, 0, 0}, {45, 45, 60}, {90, 5, 10}},
            "less 2; cap 0 75; must 1 10; a more 0 1; b least 2 10; c better 0 1; d most 0 70; e twice 1 0; h step 3 2 1 1;");
        x.drop(3);
        x.voices(255 - 16);
        x.row(2);
        x.row(0);
        Due.feed(x, onTheTape);
        return x;
    }

    /** Three things told, but nothing fits. */
    static EveryMeasure nothingFits() {
        return Due.with(2, new int[][] {{80, 20}, {30, 70}, {45, 45}}, "a most 0 10; b least 0 11;");
    }

    /** Where nothing fits the call is refused; where one line of weights still fits, 1 to 9, it has an answer. */
    static void isNoneIfNothingFits(String call, long due, Ask ask) {
        EveryMeasure fitting = nothingFits();
        Due.is("choice()", 0, Due.read(fitting, "a most 0 10; b least 0 10;"));
        Due.is("1 to 9 fits: " + call, due, answer(fitting, ask));
        isNone(Kept::nothingFits, "nothing fits: " + call, ask);
    }

    static void isFalse(String call, Deed deed) {
        isFalse(Kept::rich, call, deed);
    }

    static void isFalse(Maker maker, String call, Deed deed) {
        keeps(maker, call, 0, x -> deed.done(x) ? 1 : 0);
    }

    static void isNone(String call, Ask ask) {
        isNone(Kept::rich, call, ask);
    }

    static void isNone(Maker maker, String call, Ask ask) {
        keeps(maker, call, EveryMeasure.NONE, ask);
    }

    static void isThrown(String call, Ask ask) {
        isThrown(Kept::rich, call, ask);
    }

    static void isThrown(Maker maker, String call, Ask ask) {
        keeps(maker, call, THROWN, ask);
    }

    private static void keeps(Maker maker, String call, long due, Ask ask) {
        EveryMeasure asked = maker.make();
        EveryMeasure other = maker.make();
        Due.is(call, due, answer(asked, ask));
        same(call, asked, other);
    }

    /** Whether two objects answer alike from now on. */
    static void same(String call, EveryMeasure asked, EveryMeasure other) {
        List<Long> got = exam(asked);
        List<Long> want = exam(other);
        int differ = 0;
        for (int i = 0; i < want.size(); i++) if (!want.get(i).equals(got.get(i))) differ++;
        Due.is("later answers that " + call + " changed", 0, differ);
    }

    private static long answer(EveryMeasure x, Ask ask) {
        try {
            return ask.of(x);
        } catch (NoSuchElementException e) {
            return THROWN;
        }
    }

    /** Some 330 calls: all that can be asked, then calls that bring to light what is kept but can't be asked. */
    private static List<Long> exam(EveryMeasure x) {
        List<Long> answers = new ArrayList<>();
        askStanding(x, answers);
        askWeights(x, answers);
        askJudgements(x, answers);
        x.voices(255);
        for (int what = 3; what < 8; what++) answers.add((long) x.count(what));
        for (int thing = 5; thing < 8; thing++) answers.add(x.row(thing) ? 1L : 0L);
        answers.add((long) x.judged(0));
        answers.add((long) x.feed(';', ' ', 0));
        answers.add((long) x.choice());
        askStanding(x, answers);
        for (int thing = 0; thing < 8; thing++) x.thing(thing, 40, 30, 20, 10);
        answers.add((long) x.judged(0));
        answers.add((long) x.judged(1));
        askStanding(x, answers);
        return answers;
    }

    private static void askStanding(EveryMeasure x, List<Long> answers) {
        for (int what = 0; what < 8; what++) answers.add((long) x.count(what));
        for (int t = 0; t < 8; t++) {
            int thing = t;
            answers.add((long) x.standing(t));
            for (int m = 0; m < 4; m++) {
                int measure = m;
                answers.add(answer(x, y -> y.value(thing, measure)));
            }
        }
    }

    private static void askWeights(EveryMeasure x, List<Long> answers) {
        int[][] some = {{1, 0, 0, 0}, {0, 1, 0, 0}, {0, 0, 1, 0}, {5, 3, 2, 1}, {4, 4, 1, 1}, {2, 3, 4, 5}};
        for (int[] w : some) answers.add((long) x.fits(w[0], w[1], w[2], w[3]));
        for (int c = 0; c < 6; c++) {
            for (int m = 0; m < 4; m++) answers.add(x.corner(c, m));
        }
        answers.add((long) x.small(1));
        answers.add((long) x.share(EveryMeasure.NONE, 9));
        answers.add((long) x.agree(1));
        answers.add((long) x.yields(1));
    }

    private static void askJudgements(EveryMeasure x, List<Long> answers) {
        for (int t = 0; t < 8; t++) {
            int other = (t + 1) % 3;
            int thing = t;
            answers.add((long) x.better(t, other));
            answers.add(answer(x, y -> y.gap(thing, other, 0)));
            answers.add(x.regret(t, 0));
            answers.add((long) x.need(t, 1, true));
        }
        answers.add((long) x.good(0, 1, 2, 3, 4, 0));
        answers.add((long) x.beaten(4));
        answers.add((long) x.why(0, 1, 1));
        answers.add((long) x.holds(0, 0, 1));
        answers.add((long) x.edge(0, 1, 0));
        answers.add((long) x.best(0));
        answers.add((long) x.best(1));
        answers.add((long) x.least());
        answers.add((long) x.next(2));
        answers.add((long) x.few());
        answers.add((long) x.judged(0));
        answers.add((long) x.judged(1));
        answers.add((long) x.worst());
        answers.add((long) x.first(12));
        answers.add((long) x.many(40));
    }
}
