import java.util.ArrayList;
import java.util.List;
import java.util.NoSuchElementException;

/** Calls that are refused, and that change nothing: of two objects made alike one is asked, then both answer one exam. */
final class Kept {
    private static final long THROWN = Long.MIN_VALUE;

    private Kept() { }

    interface Maker {
        EveryMeasure make();
    }

    interface Ask {
        long of(EveryMeasure x);
    }

    interface Deed {
        boolean done(EveryMeasure x);
    }

    /** Has something of all that there is: things in, out and not told, each word, silent voices, a row, half a text. */
    static EveryMeasure rich() {
        return rich("cap 1 50; b more 1 2");
    }

    static EveryMeasure rich(String onTheTape) {
        EveryMeasure x = Due.with(3, new int[][] {{80, 20, 40}, {30, 70, 50}, {50, 50, 45}, {0, 0, 0}, {45, 45, 60}, {90, 5, 10}},
            "less 2; cap 0 75; must 1 10; a more 0 1; b least 2 10; c better 0 1; d most 0 70; e twice 1 0; h step 3 2 1 1;");
        x.drop(3);
        x.voices(255 - 16);
        x.row(2);
        x.row(0);
        Due.feed(x, onTheTape);
        return x;
    }

    /** Three things told, but nothing fits. */
    static EveryMeasure nothingFits() {
        return Due.with(2, new int[][] {{80, 20}, {30, 70}, {45, 45}}, "a most 0 10; b least 0 11;");
    }

    /** Where nothing fits the call is refused; where one line of weights still fits, 1 to 9, it has an answer. */
    static void isNoneIfNothingFits(String call, long due, Ask ask) {
        EveryMeasure fitting = nothingFits();
        Due.is("choice()", 0, Due.read(fitting, "a most 0 10; b least 0 10;"));
        Due.is("1 to 9 fits: " + call, due, answer(fitting, ask));
        isNone(Kept::nothingFits, "nothing fits: " + call, ask);
    }

    static void isFalse(String call, Deed deed) {
        isFalse(Kept::rich, call, deed);
    }

    static void isFalse(Maker maker, String call, Deed deed) {
        keeps(maker, call, 0, x -> deed.done(x) ? 1 : 0);
    }

    static void isNone(String call, Ask ask) {
        isNone(Kept::rich, call, ask);
    }

    static void isNone(Maker maker, String call, Ask ask) {
        keeps(maker, call, EveryMeasure.NONE, ask);
    }

    static void isThrown(String call, Ask ask) {
        isThrown(Kept::rich, call, ask);
    }

    static void isThrown(Maker maker, String call, Ask ask) {
        keeps(maker, call, THROWN, ask);
    }

    private static void keeps(Maker maker, String call, long due, Ask ask) {
        EveryMeasure asked = maker.make();
        EveryMeasure other = maker.make();
        Due.is(call, due, answer(asked, ask));
        same(call, asked, other);
    }

    /** Whether two objects answer alike from now on. */
    static void same(String call, EveryMeasure asked, EveryMeasure other) {
        List<Long> got = exam(asked);
        List<Long> want = exam(other);
        int differ = 0;
        for (int i = 0; i < want.size(); i++) if (!want.get(i).equals(got.get(i))) differ++;
        Due.is("later answers that " + call + " changed", 0, differ);
    }

    private static long answer(EveryMeasure x, Ask ask) {
        try {
            return ask.of(x);
        } catch (NoSuchElementException e) {
            return THROWN;
        }
    }

    /** Some 300 calls: all that can be asked, then calls that bring to light what is kept but can't be asked. */
    private static List<Long> exam(EveryMeasure x) {
        List<Long> answers = new ArrayList<>();
        for (Ask ask : asks()) answers.add(answer(x, ask));
        x.voices(255);
        for (int what = 3; what < 8; what++) answers.add((long) x.count(what));
        for (int thing = 5; thing < 8; thing++) answers.add(x.row(thing) ? 1L : 0L);
        answers.add((long) x.judged(0));
        answers.add((long) x.feed(';', ' ', 0));
        answers.add((long) x.choice());
        for (Ask ask : asksOfStanding()) answers.add(answer(x, ask));
        for (int thing = 0; thing < 8; thing++) x.thing(thing, 40, 30, 20, 10);
        answers.add((long) x.judged(0));
        answers.add((long) x.judged(1));
        for (Ask ask : asksOfStanding()) answers.add(answer(x, ask));
        return answers;
    }

    /** Whether each ask has the same answer whatever was asked ahead of it. */
    static void asksChangeNothing(String state, Maker maker) {
        List<Ask> asks = asks();
        EveryMeasure there = maker.make();
        EveryMeasure back = maker.make();
        long[] fresh = new long[asks.size()];
        int differ = 0;
        for (int i = 0; i < fresh.length; i++) fresh[i] = answer(maker.make(), asks.get(i));
        for (int i = 0; i < fresh.length; i++) if (answer(there, asks.get(i)) != fresh[i]) differ++;
        for (int i = fresh.length - 1; i >= 0; i--) if (answer(back, asks.get(i)) != fresh[i]) differ++;
        Due.is(state + ": answers that other asks changed", 0, differ);
        same(state + ", all asks", there, maker.make());
    }

    private static List<Ask> asks() {
        List<Ask> asks = asksOfStanding();
        asks.addAll(asksOfWeights());
        asks.addAll(asksOfThings());
        asks.addAll(asksOfAll());
        return asks;
    }

    private static List<Ask> asksOfStanding() {
        List<Ask> asks = new ArrayList<>();
        for (int w = 0; w < 8; w++) {
            int what = w;
            asks.add(x -> x.count(what));
        }
        for (int t = 0; t < 8; t++) {
            int thing = t;
            asks.add(x -> x.standing(thing));
            for (int m = 0; m < 4; m++) {
                int measure = m;
                asks.add(x -> x.value(thing, measure));
            }
        }
        return asks;
    }

    private static List<Ask> asksOfWeights() {
        List<Ask> asks = new ArrayList<>();
        for (int[] w : new int[][] {{1, 0, 0, 0}, {0, 1, 0, 0}, {0, 0, 1, 0}, {5, 3, 2, 1}, {4, 4, 1, 1}, {2, 3, 4, 5}}) {
            asks.add(x -> x.fits(w[0], w[1], w[2], w[3]));
        }
        for (int c = 0; c < 24; c++) {
            int corner = c;
            asks.add(x -> x.corner(corner / 4, corner % 4));
        }
        return asks;
    }

    private static List<Ask> asksOfThings() {
        List<Ask> asks = new ArrayList<>();
        for (int t = 0; t < 8; t++) {
            int thing = t;
            int other = (t + 1) % 3;
            asks.add(x -> x.better(thing, other));
            asks.add(x -> x.gap(thing, other, 0));
            asks.add(x -> x.regret(thing, 0));
            asks.add(x -> x.beaten(thing));
            asks.add(x -> x.need(thing, 1, true));
            asks.add(x -> x.need(thing, 0, false));
            asks.add(x -> x.why(thing, other, 1));
            asks.add(x -> x.holds(thing, 0, 1));
            asks.add(x -> x.edge(thing, other, 0));
        }
        return asks;
    }

    private static List<Ask> asksOfAll() {
        List<Ask> asks = new ArrayList<>();
        asks.add(x -> x.good(0, 1, 2, 3, 4, 0));
        asks.add(x -> x.share(EveryMeasure.NONE, 9));
        asks.add(x -> x.share(1, 9));
        for (int w = 0; w < 2; w++) {
            int what = w;
            asks.add(x -> x.small(what));
            asks.add(x -> x.best(what));
            asks.add(x -> x.next(what));
            asks.add(x -> x.agree(what));
            asks.add(x -> x.yields(what));
            asks.add(x -> x.judged(what));
        }
        asks.add(x -> x.next(2));
        asks.add(x -> x.least());
        asks.add(x -> x.few());
        asks.add(x -> x.worst());
        asks.add(x -> x.first(12));
        asks.add(x -> x.many(40));
        return asks;
    }
}
