/** Each promise by answers worked out by hand: ordinary inputs, the edges, wrong inputs. */
public final class PromisesTest {
    private static final int NONE = EveryMeasure.NONE;
    private static final int[][] NO_THINGS = {};
    /** By the share x of measure 0: 20 + 60x, 70 - 40x, 45. */
    private static final int[][] THREE = {{80, 20}, {30, 70}, {45, 45}};

    public static void main(String[] args) {
        aNewObject();
        measures();
        thing();
        drop();
        feed();
        voices();
        value();
        standing();
        good();
        fits();
        corner();
        small();
        better();
        gap();
        best();
        regretAndLeast();
        beaten();
        next();
        few();
        need();
        share();
        why();
        holds();
        edge();
        agree();
        yields();
        rowAndJudged();
        worst();
        first();
        many();
        count();
        Due.end();
    }

    /** 1 */
    private static void aNewObject() {
        EveryMeasure x = new EveryMeasure();
        Due.is("NONE", -1, EveryMeasure.NONE);
        int[] counts = {3, 0, 0, 0, 0, 0, 3, 0};
        for (int what = 0; what < 8; what++) Due.is("count(" + what + ")", counts[what], x.count(what));
        for (int t = 0; t < 8; t++) Due.is("standing(" + t + ")", NONE, x.standing(t));
        Due.is("best(0)", 0, x.best(0));
        Due.is("best(1)", 0, x.best(1));
        Due.is("judged(0)", 1, x.judged(0));
        Due.is("choice of h", 0, Due.read(x, "h more 0 1;"));
        Due.is("h counts at first", 1, x.count(4));
    }

    /** 2 */
    private static void measures() {
        EveryMeasure x = new EveryMeasure();
        x.thing(0, 1, 2, 3, 4);
        Due.read(x, "less 0; a more 0 1;");
        x.row(0);
        x.voices(2);
        Due.feed(x, "less 0;");
        for (int k : new int[] {0, -1, 5, Integer.MAX_VALUE, Integer.MIN_VALUE}) {
            Due.is("measures(" + k + ")", false, x.measures(k));
        }
        Due.is("things stay", 1, x.count(1));
        Due.is("sayings stay", 1, x.count(3));
        Due.is("measures(3)", true, x.measures(3));
        Due.is("things gone", 0, x.count(1));
        Due.is("sayings gone", 0, x.count(3));
        Due.is("row gone", 0, x.count(7));
        Due.is("the tape stays", 7, x.count(5));
        x.thing(0, 1, 2, 3, 4);
        Due.is("less gone", 1, x.value(0, 0));
        Due.read(x, " a more 0 1; b more 1 2;");
        Due.is("voices all", 2, x.count(4));
        for (int k = 1; k <= 4; k++) {
            Due.is("measures(" + k + ")", true, x.measures(k));
            Due.is("count(0)", k, x.count(0));
            Due.is("count(6)", k, x.count(6));
        }
    }

    /** 3 */
    private static void thing() {
        EveryMeasure x = new EveryMeasure();
        Due.is("thing(0)", true, x.thing(0, 0, 100, 50, -7));
        Due.is("thing(7)", true, x.thing(7, 1, 1, 1, 1000));
        Due.is("thing(-1)", false, x.thing(-1, 1, 1, 1, 1));
        Due.is("thing(8)", false, x.thing(8, 1, 1, 1, 1));
        Due.is("a 101", false, x.thing(0, 101, 1, 1, 1));
        Due.is("b -1", false, x.thing(0, 1, -1, 1, 1));
        Due.is("c 101", false, x.thing(1, 1, 1, 101, 1));
        Due.is("stays as it was", 100, x.value(0, 1));
        Due.is("not told", NONE, x.standing(1));
        Due.is("told again", true, x.thing(0, 9, 8, 7, 6));
        Due.is("new figure", 8, x.value(0, 1));
        Due.is("count(1)", 2, x.count(1));
        x.measures(4);
        Due.is("d is asked", false, x.thing(0, 1, 1, 1, 101));
        x.measures(1);
        Due.is("b is not asked", true, x.thing(0, 1, -1, -1, -1));
    }

    /** 4 */
    private static void drop() {
        EveryMeasure x = new EveryMeasure();
        x.thing(3, 1, 1, 1, 1);
        for (int t : new int[] {-1, 0, 8, Integer.MAX_VALUE}) Due.is("drop(" + t + ")", false, x.drop(t));
        Due.is("drop(3)", true, x.drop(3));
        Due.is("drop(3) again", false, x.drop(3));
        Due.is("standing(3)", NONE, x.standing(3));
        Due.is("count(1)", 0, x.count(1));
    }

    /** 5 */
    private static void feed() {
        EveryMeasure x = new EveryMeasure();
        Due.is("nothing", 0, x.feed(0, 0, 0));
        Due.is("left out", 0, x.feed(0x0001090b0d1f7f80L, -1L, 0xa0c0e0f0fffeff81L));
        Due.is("taken", 3, x.feed(0x0a00000000000000L, 0x2000L, 0x7eL));
        x.choice();
        Due.is("the highest byte first", 8, x.feed(0x6c65737320303b0aL, 0, 0));
        Due.is("read", 0, x.choice());
        x.thing(0, 30, 0, 0, 0);
        Due.is("less 0", 70, x.value(0, 0));
        Due.is("a, then b, then c", 24, x.feed(0x6361702020202020L, 0x2020202020202020L, 0x203020203630203bL));
        Due.is("read", 0, x.choice());
        x.thing(0, 99, 0, 0, 0);
        Due.is("cap 0 60", 60, x.value(0, 0));
        for (int i = 1; i <= 41; i++) x.feed(0x2020202020202020L, 0x2020202020202020L, 0x2020202020202020L);
        Due.is("984", 984, x.count(5));
        Due.is("beyond 1,000", 1000, x.feed(0x6c65737320313b20L, 0x6c65737320323b20L, 0x6c65737320303b20L));
        Due.is("full", 1000, x.feed(0x6c65737320303b20L, 0, 0));
        Due.is("read", 0, x.choice());
        Due.is("the tape is empty", 0, x.count(5));
        x.thing(0, 30, 30, 30, 0);
        Due.is("what came last is left out", 30, x.value(0, 0));
        Due.is("what came ahead is there", 70, x.value(0, 2));
    }

    /** 7 */
    private static void voices() {
        EveryMeasure x = Due.with(2, NO_THINGS, "a more 0 1; b more 0 1; h more 0 1; a more 1 0;");
        Due.is("all", 4, x.count(4));
        for (int set : new int[] {-1, 256, Integer.MAX_VALUE, Integer.MIN_VALUE}) {
            Due.is("voices(" + set + ")", false, x.voices(set));
        }
        Due.is("still all", 4, x.count(4));
        Due.is("voices(1)", true, x.voices(1));
        Due.is("a", 2, x.count(4));
        Due.is("corners", 1, x.count(6));
        Due.is("voices(128)", true, x.voices(128));
        Due.is("h", 1, x.count(4));
        Due.is("corners", 2, x.count(6));
        Due.is("voices(0)", true, x.voices(0));
        Due.is("nobody", 0, x.count(4));
        Due.is("voices(255)", true, x.voices(255));
        x.voices(2);
        Due.read(x, "a more 0 1; b more 0 1; b more 1 0;");
        Due.is("they stay for another choice", 2, x.count(4));
    }

    /** 8 */
    private static void value() {
        EveryMeasure x = Due.with(3, new int[][] {{90, 30, 5}, {10, 80, 95}}, "less 2; cap 0 70; cap 2 90; must 1 50;");
        int[][] values = {{70, 30, 90}, {10, 80, 5}};
        for (int t = 0; t < 2; t++) {
            for (int m = 0; m < 3; m++) Due.is("value(" + t + ", " + m + ")", values[t][m], x.value(t, m));
        }
        Due.none("value(2, 0)", () -> x.value(2, 0));
        Due.none("value(-1, 0)", () -> x.value(-1, 0));
        Due.none("value(8, 0)", () -> x.value(8, 0));
        Due.none("value(0, 3)", () -> x.value(0, 3));
        Due.none("value(0, -1)", () -> x.value(0, -1));
    }

    /** 9 */
    private static void standing() {
        EveryMeasure x = Due.with(2, new int[][] {{50, 0}, {49, 100}, {100, 40}, {50, 41}}, "less 1; must 0 50; must 1 60; cap 1 10;");
        int[] due = {1, 0, 1, 0, NONE, NONE, NONE, NONE};
        for (int t = 0; t < 8; t++) Due.is("standing(" + t + ")", due[t], x.standing(t));
        Due.is("standing(-1)", NONE, x.standing(-1));
        Due.is("standing(8)", NONE, x.standing(8));
        Due.is("best(1)", 4, x.best(1));
    }

    /** 10 */
    private static void good() {
        EveryMeasure x = Due.with(3, new int[][] {{10, 20, 40}, {0, 0, 0}}, "must 0 5;");
        Due.is("70/3 above", 70, x.good(0, 1, 1, 1, -1, 0));
        Due.is("70/3 below", 3, x.good(0, 1, 1, 1, -1, 1));
        Due.is("in lowest terms", 70, x.good(0, 999, 999, 999, 0, 0));
        Due.is("15/1 above", 15, x.good(0, 7, 7, 0, 0, 0));
        Due.is("15/1 below", 1, x.good(0, 7, 7, 0, 0, 1));
        Due.is("one that is out: 0/1", 0, x.good(1, 2, 3, 4, 0, 0));
        Due.is("0/1 below", 1, x.good(1, 2, 3, 4, 0, 1));
        Due.is("not told", NONE, x.good(2, 1, 1, 1, 0, 0));
        Due.is("thing -1", NONE, x.good(-1, 1, 1, 1, 0, 0));
        Due.is("all 0", NONE, x.good(0, 0, 0, 0, 5, 0));
        Due.is("1000", NONE, x.good(0, 1000, 0, 0, 0, 0));
        Due.is("-1", NONE, x.good(0, 1, -1, 0, 0, 0));
        Due.is("what 2", NONE, x.good(0, 1, 1, 1, 0, 2));
        Due.is("what -1", NONE, x.good(0, 1, 1, 1, 0, -1));
    }

    /** 11 */
    private static void fits() {
        EveryMeasure x = Due.with(4, new int[][] {{60, 40, 0, 0}, {40, 60, 0, 0}},
            "a twice 0 1; b step 3 1 5 2; c least 3 10; d most 0 50; e better 0 1; f better 0 7;");
        Due.is("fits", 1, x.fits(50, 25, 15, 10));
        Due.is("twice", 0, x.fits(49, 25, 15, 11));
        Due.is("step", 0, x.fits(50, 25, 16, 9 + 2));
        Due.is("least", 0, x.fits(50, 25, 15, 9));
        Due.is("most", 0, x.fits(51, 25, 15, 10));
        Due.is("better", 0, x.fits(1, 2, 0, 10));
        x.voices(255 - 8);
        Due.is("d does not count", 1, x.fits(51, 25, 15, 11));
        Due.is("all 0", NONE, x.fits(0, 0, 0, 0));
        Due.is("-1", NONE, x.fits(1, 1, 1, -1));
        Due.is("1000", NONE, x.fits(1, 1, 1000, 1));
        x.measures(2);
        Due.is("others are not asked", 1, x.fits(0, 999, -4, 5000));
    }

    private static void corners(EveryMeasure x, long[]... due) {
        Due.is("corners", due.length, x.count(6));
        for (int c = 0; c < due.length; c++) {
            for (int m = 0; m < due[c].length; m++) Due.is("corner(" + c + ", " + m + ")", due[c][m], x.corner(c, m));
            Due.is("no such measure", NONE, x.corner(c, due[c].length));
            Due.is("no such measure", NONE, x.corner(c, -1));
        }
        Due.is("no such corner", NONE, x.corner(due.length, 0));
        Due.is("no such corner", NONE, x.corner(-1, 0));
    }

    /** 12 */
    private static void corner() {
        corners(Due.with(2, NO_THINGS, "a step 100 0 75 1;"), new long[] {1, 0}, new long[] {3, 4});
        corners(Due.with(3, NO_THINGS, "a more 0 1; a more 1 2;"),
            new long[] {1, 0, 0}, new long[] {1, 1, 0}, new long[] {1, 1, 1});
        corners(Due.with(3, NO_THINGS, "a least 0 25; a most 0 50;"),
            new long[] {1, 0, 1}, new long[] {1, 0, 3}, new long[] {1, 1, 0}, new long[] {1, 3, 0});
        corners(Due.with(3, NO_THINGS, "a least 0 60; b most 0 50;"));
        // Nothing but one line of weights: 99 to 100 three times over.
        corners(Due.with(4, NO_THINGS, "a step 99 0 100 1; a step 100 1 99 0; a step 99 1 100 2; a step 100 2 99 1;"
            + "a step 99 2 100 3; a step 100 3 99 2;"), new long[] {1000000, 990000, 980100, 970299});
        // A flat piece: equal first two weights, the other two free.
        corners(Due.with(4, NO_THINGS, "a more 0 1; a more 1 0;"),
            new long[] {0, 0, 0, 1}, new long[] {0, 0, 1, 0}, new long[] {1, 1, 0, 0});
        EveryMeasure x = Due.with(2, new int[][] {{70, 20}, {40, 60}}, "a better 0 1;");
        corners(x, new long[] {1, 0}, new long[] {4, 3});
        x.thing(0, 70, 60, 0, 0);
        corners(x, new long[] {0, 1}, new long[] {1, 0});
        x.thing(0, 30, 50, 0, 0);
        corners(x);
    }

    /** 13 */
    private static void small() {
        EveryMeasure x = Due.with(3, NO_THINGS, "a least 0 60; b least 1 30; c most 1 20; d most 0 50;");
        Due.is("two", 2, x.small(0));
        Due.is("the first in order, not the least as bits", 9, x.small(1));
        x.voices(14);
        Due.is("without a", 6, x.small(1));
        x.voices(7);
        Due.is("without d", 6, x.small(1));
        x.voices(3);
        Due.is("they can", NONE, x.small(0));
        Due.is("they can", NONE, x.small(1));
        x.voices(255);
        Due.is("what 2", NONE, x.small(2));
        Due.is("what -1", NONE, x.small(-1));
        x = Due.with(4, NO_THINGS, "a more 0 1; a most 0 20; a most 1 20; a most 2 20; a most 3 39;");
        Due.is("four", 4, x.small(0));
        Due.is("the first in order: 0 not below 1 does for a bound of 1", 27, x.small(1));
        x = Due.with(3, NO_THINGS, "a more 0 1; a most 0 30; a most 1 30; a most 2 30;");
        Due.is("three", 3, x.small(0));
        Due.is("likewise", 11, x.small(1));
        x.voices(0);
        Due.is("nobody", NONE, x.small(0));
        x = Due.with(2, new int[][] {{1, 1}, {2, 2}}, "a more 0 1; b better 0 1;");
        Due.is("one", 1, x.small(0));
        Due.is("one", 2, x.small(1));
    }

    /** 14 */
    private static void better() {
        EveryMeasure x = Due.with(2, new int[][] {{50, 50}, {40, 60}, {40, 50}, {50, 50}, {10, 10}}, "a more 0 1; must 0 20;");
        Due.is("by all", 2, x.better(0, 1));
        Due.is("at the edge", 1, x.better(1, 0));
        Due.is("by all", 2, x.better(1, 2));
        Due.is("by none", 0, x.better(2, 0));
        Due.is("equal", 2, x.better(0, 3));
        Due.is("equal", 2, x.better(3, 0));
        Due.is("the same", NONE, x.better(0, 0));
        Due.is("out", NONE, x.better(0, 4));
        Due.is("out", NONE, x.better(4, 0));
        Due.is("not told", NONE, x.better(0, 5));
        Due.is("no thing", NONE, x.better(-1, 8));
        Due.read(x, "a twice 0 1; a twice 1 0;");
        Due.is("nothing fits", NONE, x.better(0, 1));
    }

    /** 15 */
    private static void gap() {
        EveryMeasure x = Due.with(2, THREE, "a twice 0 1;");
        Due.is("-50/3", -50, x.gap(0, 1, 0));
        Due.is("-50/3", 3, x.gap(0, 1, 1));
        Due.is("50/1", 50, x.gap(1, 0, 0));
        Due.is("50/1", 1, x.gap(1, 0, 1));
        Due.is("45 - 30", 15, x.gap(1, 2, 0));
        x.thing(2, 80, 20, 0, 0);
        Due.is("0/1", 0, x.gap(0, 2, 0));
        Due.is("0/1", 1, x.gap(0, 2, 1));
        EveryMeasure y = x;
        Due.none("the same", () -> y.gap(0, 0, 0));
        Due.none("not told", () -> y.gap(0, 3, 0));
        Due.none("what 2", () -> y.gap(0, 1, 2));
        Due.none("what -1", () -> y.gap(0, 1, -1));
        Due.read(x, "a most 0 10; b least 0 11;");
        Due.none("nothing fits", () -> y.gap(0, 1, 0));
    }

    /** 16 */
    private static void best() {
        EveryMeasure x = Due.with(2, THREE, "");
        Due.is("45 is always below", 3, x.best(0));
        Due.is("none surely", 0, x.best(1));
        x.thing(2, 50, 50, 0, 0);
        Due.is("50 is as good at one half", 7, x.best(0));
        Due.read(x, "a more 0 1;");
        Due.is("at the edge", 7, x.best(0));
        Due.is("surely", 1, x.best(1));
        Due.read(x, "a more 0 1; a more 1 0;");
        Due.is("all equal", 7, x.best(1));
        Due.read(x, "must 1 60;");
        Due.is("the others are out", 2, x.best(1));
        Due.read(x, "must 1 71;");
        Due.is("all are out", 0, x.best(0));
        Due.is("what 2", NONE, x.best(2));
        Due.is("what -1", NONE, x.best(-1));
        Due.read(x, "a most 0 10; b least 0 11;");
        Due.is("nothing fits", NONE, x.best(0));
        Due.is("nothing fits", NONE, x.best(1));
        // By no corner is the middle one best, by the weights between them it is.
        x = Due.with(3, new int[][] {{90, 0, 0}, {0, 90, 0}, {0, 0, 90}, {31, 31, 31}}, "");
        Due.is("between the corners", 15, x.best(0));
        x.thing(3, 29, 29, 29, 0);
        Due.is("nowhere", 7, x.best(0));
    }

    /** 17, 18 */
    private static void regretAndLeast() {
        EveryMeasure x = Due.with(2, THREE, "a step 3 0 1 1;");
        // Corners (1, 0) and (1, 3): 80, 30, 45 and 35, 60, 45.
        Due.is("25", 25, x.regret(0, 0));
        Due.is("50", 50, x.regret(1, 0));
        Due.is("35", 35, x.regret(2, 0));
        Due.is("/ 1", 1, x.regret(2, 1));
        Due.is("least()", 0, x.least());
        Due.read(x, "a step 2 0 1 1; b twice 1 0;");
        // (1, 2): 40, 170/3, 45.
        Due.is("50/3", 50, x.regret(0, 0));
        Due.is("50/3", 3, x.regret(0, 1));
        Due.is("0/1", 0, x.regret(1, 0));
        Due.is("0/1", 1, x.regret(1, 1));
        Due.is("least()", 1, x.least());
        x.thing(0, 30, 70, 0, 0);
        Due.is("of equal ones the first", 0, x.least());
        Due.is("not told", NONE, x.regret(3, 0));
        Due.is("thing -1", NONE, x.regret(-1, 0));
        Due.is("what 2", NONE, x.regret(0, 2));
        Due.read(x, "must 0 31;");
        Due.is("out", NONE, x.regret(0, 0));
        Due.is("alone", 0, x.regret(2, 0));
        Due.is("alone", 2, x.least());
        Due.read(x, "must 0 100;");
        Due.is("none is in", NONE, x.least());
        Due.read(x, "a most 0 10; b least 0 11;");
        Due.is("nothing fits", NONE, x.regret(0, 0));
        Due.is("nothing fits", NONE, x.least());
    }

    /** 19 */
    private static void beaten() {
        EveryMeasure x = Due.with(2, new int[][] {{0, 100}, {100, 0}, {10, 100}, {100, 10}, {50, 50}}, "");
        Due.is("the first two in order, not the least as bits", 9, x.beaten(4));
        Due.is("may be best", NONE, x.beaten(2));
        x.thing(5, 51, 51, 0, 0);
        Due.is("one is fewer", 32, x.beaten(4));
        x.thing(5, 50, 50, 0, 0);
        Due.is("an equal one beats it not", 9, x.beaten(4));
        Due.read(x, "a more 0 1;");
        Due.is("by those weights one does", 8, x.beaten(4));
        Due.read(x, "must 0 11; ");
        Due.is("those that are out beat none: it may be best at 0", NONE, x.beaten(4));
        Due.is("out", NONE, x.beaten(0));
        Due.is("not told", NONE, x.beaten(6));
        Due.is("thing -1", NONE, x.beaten(-1));
        x = Due.with(3, new int[][] {{90, 0, 0}, {0, 90, 0}, {0, 0, 90}, {29, 29, 29}}, "");
        Due.is("three", 7, x.beaten(3));
        x.thing(3, 30, 30, 30, 0);
        Due.is("as good at one third each", NONE, x.beaten(3));
        x = Due.with(4, new int[][] {{100}, {0, 100}, {0, 0, 100}, {0, 0, 0, 100}, {24, 24, 24, 24}}, "");
        Due.is("may not be best", 15, x.best(0));
        Due.is("more than three", NONE, x.beaten(4));
        Due.read(x, "a most 0 0;");
        Due.is("three of the rest", 14, x.beaten(4));
        Due.read(x, "a most 0 10; b least 0 11;");
        Due.is("nothing fits", NONE, x.beaten(4));
    }

    /** 20 */
    private static void next() {
        EveryMeasure x = Due.with(2, new int[][] {{70, 70}, {100, 0}, {0, 100}}, "");
        Due.is("a", 1, x.next(0));
        Due.is("b", 2, x.next(1));
        Due.is("greater count", 2, x.next(2));
        Due.is("what 3", NONE, x.next(3));
        Due.is("what -1", NONE, x.next(-1));
        Due.read(x, "a least 0 60;");
        // Then 1 is best from .7 on, 0 up to it.
        Due.is("of equal ones the first", 0, x.next(0));
        Due.is("of equal ones the first", 1, x.next(1));
        Due.is("at the edge both", 2, x.next(2));
        Due.read(x, "a least 0 71;");
        Due.is("one is best already", 1, x.next(2));
        Due.is("the first question", 0, x.next(0));
        Due.read(x, "must 0 80;");
        Due.is("one is in", NONE, x.next(0));
        Due.read(x, "a most 0 10; b least 0 11;");
        Due.is("nothing fits", NONE, x.next(0));
    }

    /** 21 */
    private static void few() {
        int[][] arc = {{100, 0}, {92, 38}, {71, 71}, {38, 92}, {0, 100}};
        EveryMeasure x = Due.with(2, arc, "");
        Due.is("five in turn", NONE, x.few());
        x.drop(2);
        Due.is("four in turn", 2, x.few());
        x.drop(0);
        Due.is("three in turn", 2, x.few());
        x.drop(4);
        Due.is("two", 1, x.few());
        x.drop(1);
        Due.is("one", 0, x.few());
        x.drop(3);
        Due.is("none", NONE, x.few());
        x = Due.with(2, arc, "a more 0 1;");
        Due.is("half of the arc", 2, x.few());
        Due.read(x, "a step 1 0 3 1;");
        Due.is("an end of the arc", 1, x.few());
        Due.read(x, "a step 1 0 30 1;");
        Due.is("less of it", 0, x.few());
        Due.read(x, "a most 0 10; b least 0 11;");
        Due.is("nothing fits", NONE, x.few());
        // Two questions part three that are best in turn around one point, each beside each.
        x = Due.with(3, new int[][] {{90, 0, 0}, {0, 90, 0}, {0, 0, 90}}, "");
        Due.is("three around", 2, x.few());
    }

    /** 22 */
    private static void need() {
        EveryMeasure x = Due.with(2, new int[][] {{10, 10}, {10, 11}}, "a step 3 0 2 1; a step 2 1 3 0;");
        Due.is("2 to 3 of weight, rounded up", 2, x.need(0, 0, true));
        Due.is("2 to 3 of weight, rounded up", 2, x.need(0, 0, false));
        Due.is("1", 1, x.need(0, 1, true));
        Due.is("it is", 0, x.need(1, 0, true));
        Due.is("measure 2", NONE, x.need(0, 2, true));
        Due.is("measure -1", NONE, x.need(0, -1, true));
        Due.is("not told", NONE, x.need(2, 0, true));
        x = Due.with(2, THREE, "");
        Due.is("thing 2 needs 10 in either", 10, x.need(2, 0, false));
        Due.is("by the weights of 1 alone 0 gives nothing", NONE, x.need(2, 0, true));
        Due.is("70 less 20", 50, x.need(0, 1, true));
        x = Due.with(1, new int[][] {{5}, {9}}, "cap 0 7;");
        Due.is("to the cap of the other", 2, x.need(0, 0, true));
        x = Due.with(2, new int[][] {{50, 0}, {90, 90}}, "cap 0 60; a more 0 1; a more 1 0;");
        Due.is("above the cap", NONE, x.need(0, 0, true));
        x.thing(1, 90, 40, 0, 0);
        Due.is("to 100, the cap not asked", 50, x.need(0, 0, true));
        x.thing(1, 90, 41, 0, 0);
        Due.is("100 does not do", NONE, x.need(0, 0, true));
        Due.is("100 does not do", NONE, x.need(0, 0, false));
        x = Due.with(2, new int[][] {{50, 0}, {50, 20}}, "a better 1 0; a better 0 1;");
        Due.is("sayings by the values of now", 0, x.need(0, 0, true));
        Due.read(x, "a most 0 10; b least 0 11;");
        Due.is("nothing fits", NONE, x.need(0, 0, true));
        Due.read(x, "must 1 10;");
        Due.is("out", NONE, x.need(0, 0, true));
    }

    /** 23 */
    private static void share() {
        EveryMeasure x = Due.with(3, NO_THINGS, "");
        Due.is("all of 2", 6, x.share(NONE, 2));
        Due.is("all of 20", 231, x.share(NONE, 20));
        Due.read(x, "a more 0 1;");
        Due.is("200 110 101 002", 4, x.share(NONE, 2));
        x.thing(0, 30, 0, 0, 0);
        x.thing(1, 0, 0, 30, 0);
        Due.is("200 110 101", 3, x.share(0, 2));
        Due.is("101 002", 2, x.share(1, 2));
        Due.is("n 0", NONE, x.share(0, 0));
        Due.is("n 21", NONE, x.share(0, 21));
        Due.is("n -1", NONE, x.share(NONE, -1));
        Due.is("not told", NONE, x.share(2, 5));
        Due.is("thing 8", NONE, x.share(8, 5));
        Due.is("thing -2", NONE, x.share(-2, 5));
        Due.read(x, "must 0 10;");
        Due.is("out", NONE, x.share(1, 2));
        Due.read(x, "a most 0 10; b least 0 11;");
        Due.is("nothing fits", 0, x.share(0, 5));
        x = Due.with(4, NO_THINGS, "");
        Due.is("all of 20", 1771, x.share(NONE, 20));
        Due.read(x, "a least 3 95; b most 2 0;");
        Due.is("0 0 0 20, 0 1 0 19, 1 0 0 19", 3, x.share(NONE, 20));
        x = Due.with(1, new int[][] {{5}, {9}}, "");
        Due.is("one of 7", 1, x.share(NONE, 7));
        Due.is("never", 0, x.share(0, 7));
        Due.is("always", 1, x.share(1, 7));
        x = Due.with(2, THREE, "");
        Due.is("x not below one half", 6, x.share(0, 10));
    }

    /** 24 */
    private static void why() {
        EveryMeasure x = Due.with(4, new int[][] {{10}, {0, 10}, {0, 0, 0, 10}, {10, 10}},
            "b more 2 3; a more 0 1; c more 0 1; a more 1 2; d more 0 3;");
        Due.is("by the values alone", 0, x.why(3, 0, 0));
        Due.is("by the values alone", 0, x.why(3, 0, 1));
        Due.is("one of two", 1, x.why(0, 1, 0));
        Due.is("the first one", 2, x.why(0, 1, 1));
        Due.is("1 above 2 by two", 2, x.why(1, 2, 0));
        Due.is("1 above 2 by two", 9, x.why(1, 2, 1));
        Due.is("0 above 2 by one", 16, x.why(0, 2, 1));
        x.voices(7);
        Due.is("0 above 2 by three", 3, x.why(0, 2, 0));
        Due.is("0 above 2 by the first three", 11, x.why(0, 2, 1));
        x.voices(6);
        Due.is("c", 4, x.why(0, 1, 1));
        Due.is("not by all", NONE, x.why(0, 2, 0));
        x.voices(255);
        Due.is("not by all", NONE, x.why(2, 0, 0));
        Due.is("what 2", NONE, x.why(0, 1, 2));
        Due.is("what -1", NONE, x.why(0, 1, -1));
        Due.is("the same", NONE, x.why(0, 0, 0));
        Due.is("not told", NONE, x.why(0, 4, 0));
        // Each of the others is bounded, and together they leave half for 0.
        x = Due.with(4, new int[][] {{50, 0, 0, 0}, {0, 50, 50, 50}}, "a most 1 20; a most 2 20; a most 3 10;");
        Due.is("three", 7, x.why(0, 1, 1));
        x = Due.with(2, new int[][] {{10, 0}, {0, 10}}, "a twice 0 1; b twice 1 0;");
        Due.is("nothing fits", NONE, x.why(0, 1, 0));
    }

    /** 25 */
    private static void holds() {
        EveryMeasure x = Due.with(2, new int[][] {{10, 0}, {0, 10}, {0, 9}}, "a twice 0 1; a more 0 1; b more 1 0;");
        Due.is("nothing fits with all, without 2 it does", 2, x.holds(2, 0, 1));
        Due.is("equal weights", 2, x.holds(0, 0, 1));
        Due.is("nothing fits without 1", NONE, x.holds(1, 0, 1));
        x.voices(1);
        Due.is("without twice", 2, x.holds(0, 0, 1));
        Due.is("without more", 2, x.holds(1, 0, 1));
        Due.is("0 is never reached", 0, x.holds(1, 2, 0));
        x.voices(2);
        Due.is("one that does not count", 1, x.holds(0, 0, 1));
        Due.is("the only one", 1, x.holds(2, 0, 1));
        Due.is("without it the second is better at 0", 1, x.holds(2, 1, 0));
        Due.is("saying 3", NONE, x.holds(3, 0, 1));
        Due.is("saying -1", NONE, x.holds(-1, 0, 1));
        Due.is("the same", NONE, x.holds(0, 1, 1));
        Due.is("not told", NONE, x.holds(0, 1, 3));
    }

    /** 26 */
    private static void edge() {
        EveryMeasure x = Due.with(2, new int[][] {{10, 10}, {10, 8}, {3, 2}, {10, 10}}, "a step 3 0 2 1; a step 2 1 3 0;");
        // Weights 2 to 3: 50 and 44, so 6 may go: 3 steps of 2, 2 of 3.
        Due.is("7", 7, x.edge(0, 1, 0));
        Due.is("8", 8, x.edge(0, 1, 1));
        x.thing(1, 9, 8, 0, 0);
        Due.is("8 may go: 2 steps of 3", 8, x.edge(0, 1, 1));
        x.thing(1, 10, 9, 0, 0);
        Due.is("3 may go: 1 step of 2", 9, x.edge(0, 1, 0));
        Due.is("not below 0", 0, x.edge(0, 2, 0));
        Due.is("not below 0", 0, x.edge(0, 2, 1));
        Due.is("equal", 10, x.edge(0, 3, 1));
        Due.is("not by all", NONE, x.edge(1, 0, 0));
        Due.is("measure 2", NONE, x.edge(0, 1, 2));
        Due.is("measure -1", NONE, x.edge(0, 1, -1));
        Due.is("the same", NONE, x.edge(0, 0, 0));
        Due.is("not told", NONE, x.edge(0, 4, 0));
        x = Due.with(2, new int[][] {{10, 10}, {10, 8}}, "a most 0 0;");
        Due.is("what has no weight may go", 0, x.edge(0, 1, 0));
        Due.read(x, "a better 0 1;");
        Due.is("sayings by the values of now", 10, x.edge(0, 1, 0));
        Due.read(x, "a twice 0 1; b twice 1 0;");
        Due.is("nothing fits", NONE, x.edge(0, 1, 0));
    }

    /** 27 */
    private static void agree() {
        EveryMeasure x = Due.with(2, NO_THINGS, "b twice 0 1; g twice 1 0; d more 0 1;");
        Due.is("all but one", 7, x.agree(0));
        Due.is("without g", 255 - 64, x.agree(1));
        Due.read(x, "b twice 0 1; g twice 1 0;");
        Due.is("of two the least as bits", 255 - 64, x.agree(1));
        x.voices(64);
        Due.is("whose sayings count is not asked", 255 - 64, x.agree(1));
        Due.read(x, "c twice 0 1; c twice 1 0;");
        Due.is("one who can't be alone", 255 - 4, x.agree(1));
        Due.read(x, "a least 0 60; b least 1 60; c least 0 50; d least 1 50; e least 1 45;");
        // Of 0: a (60), c (50); of 1: b (60), d (50), e (45): b, d, e or c, d, e are the most.
        Due.is("six", 6, x.agree(0));
        Due.is("b d e, the least as bits", 255 - 5, x.agree(1));
        Due.is("what 2", NONE, x.agree(2));
        Due.is("what -1", NONE, x.agree(-1));
        StringBuilder all = new StringBuilder();
        for (char p = 'a'; p <= 'h'; p++) all.append(p).append(" better 0 1;");
        x = Due.with(1, new int[][] {{1}, {2}}, all.toString());
        Due.is("nobody", 0, x.agree(0));
        Due.is("nobody", 0, x.agree(1));
    }

    /** 28 */
    private static void yields() {
        EveryMeasure x = Due.with(2, new int[][] {{10, 0}, {0, 10}}, "a more 0 1;");
        Due.is("nobody need", 0, x.yields(0));
        Due.is("nobody need", 0, x.yields(1));
        Due.read(x, "");
        Due.is("nothing is sure", NONE, x.yields(0));
        Due.read(x, "b twice 0 1; d twice 1 0;");
        Due.is("one of two", 1, x.yields(0));
        Due.is("the least as bits", 2, x.yields(1));
        x.voices(8 + 1);
        Due.is("of the voices nobody need", 0, x.yields(0));
        x.voices(255);
        Due.read(x, "b least 0 10; d twice 1 0; f twice 0 1;");
        // Without d, b and f leave 0 best; without f, b and d leave 1 best.
        Due.is("d", 8, x.yields(1));
        Due.read(x, "b least 0 40; b most 0 60; d twice 1 0; f twice 0 1;");
        // b with d: from .4 to .33: nothing. b alone is not sure. Two yield.
        Due.is("two of three", 2, x.yields(0));
        Due.is("b and d", 10, x.yields(1));
        x.voices(2 + 8);
        Due.is("b", 2, x.yields(1));
        x.voices(2);
        Due.is("b alone is never sure, nobody neither", NONE, x.yields(1));
        Due.is("what 2", NONE, x.yields(2));
        Due.is("what -1", NONE, x.yields(-1));
        x = Due.with(2, NO_THINGS, "a more 0 1;");
        Due.is("no thing", NONE, x.yields(0));
    }

    /** 29, 30 */
    private static void rowAndJudged() {
        EveryMeasure x = Due.with(2, new int[][] {{100, 0}, {60, 30}, {40, 60}, {0, 100}, {0, 0}}, "");
        Due.is("row(8)", false, x.row(8));
        Due.is("row(-2)", false, x.row(-2));
        int[] order = {0, 1, 3, 2};
        for (int t : order) Due.is("row(" + t + ")", true, x.row(t));
        Due.is("row(1) again", false, x.row(1));
        Due.is("count(7)", 4, x.count(7));
        // 0 over 1: x from 3/7. 1 over 3: x from 7/13. 3 over 2: x up to 1/2.
        Due.is("it does not fit", 0, x.judged(0));
        Due.is("broken at the last", 3, x.judged(1));
        Due.is("what 2", NONE, x.judged(2));
        Due.is("what -1", NONE, x.judged(-1));
        Due.read(x, "a most 0 50;");
        Due.is("broken earlier", 2, x.judged(1));
        Due.read(x, "a most 0 40;");
        Due.is("broken at once", 1, x.judged(1));
        x.row(NONE);
        Due.is("empty", 0, x.count(7));
        Due.is("empty fits", 1, x.judged(0));
        Due.is("empty is not broken", NONE, x.judged(1));
        x.row(1);
        Due.is("one fits", 1, x.judged(0));
        x.row(7);
        Due.is("one is not told", NONE, x.judged(0));
        Due.is("one is not told", NONE, x.judged(1));
        x.thing(7, 60, 30, 0, 0);
        Due.is("equal ones fit", 1, x.judged(0));
        x.row(4);
        Due.is("still", 1, x.judged(0));
        Due.read(x, "must 0 1;");
        Due.is("one is out", NONE, x.judged(0));
        Due.read(x, "a twice 0 1; b twice 1 0;");
        Due.is("nothing fits", NONE, x.judged(0));
        x.row(NONE);
        Due.is("nothing fits", NONE, x.judged(0));
        for (int t = 0; t < 8; t++) Due.is("row(" + t + ")", true, x.row(t));
        Due.is("all eight", 8, x.count(7));
        Due.is("no more", false, x.row(0));
    }

    /** 31 */
    private static void worst() {
        EveryMeasure x = Due.with(3, new int[][] {{50, 20, 90}, {30, 40, 30}, {100, 100, 29}, {30, 90, 99}}, "");
        Due.is("30 and 30", 10, x.worst());
        Due.read(x, "cap 0 20;");
        Due.is("all have 20", 15, x.worst());
        Due.read(x, "less 1;");
        Due.is("50 80 90", 1, x.worst());
        Due.read(x, "must 0 40;");
        Due.is("of those in", 4, x.worst());
        Due.read(x, "must 0 100; must 2 100;");
        Due.is("none is in", 0, x.worst());
        x = Due.with(2, new int[][] {{0, 0}, {0, 9}}, "");
        Due.is("0 and 0", 3, x.worst());
    }

    /** 32 */
    private static void first() {
        EveryMeasure x = Due.with(3, new int[][] {{50, 20, 90}, {50, 40, 30}, {10, 100, 30}, {50, 40, 30}}, "");
        Due.is("0 1 2", 10, x.first(12));
        Due.is("0 2 1", 1, x.first(21));
        Due.is("1 0 2", 4, x.first(102));
        Due.is("2 1 0", 1, x.first(210));
        for (int order : new int[] {0, 1, 2, 10, 20, 11, 13, 112, 121, 1012, 2012, 3012, 10012, -12, -102, Integer.MIN_VALUE, Integer.MAX_VALUE}) {
            Due.is("first(" + order + ")", NONE, x.first(order));
        }
        Due.read(x, "must 2 31;");
        Due.is("of those in", 1, x.first(102));
        Due.read(x, "must 2 91;");
        Due.is("none is in", 0, x.first(102));
        x.measures(1);
        Due.is("one measure", 0, x.first(0));
        Due.is("one measure", NONE, x.first(1));
        Due.is("one measure", NONE, x.first(-10));
        x.measures(4);
        Due.is("four", 0, x.first(3210));
        Due.is("four", NONE, x.first(321 + 1000));
        Due.is("four", 0, x.first(321));
    }

    /** 33 */
    private static void many() {
        EveryMeasure x = Due.with(3, new int[][] {{50, 50, 0}, {40, 40, 90}}, "a more 0 1; a more 1 0; b more 1 2; b more 2 1;");
        Due.is("0 has two of three", 1, x.many(66));
        Due.is("67 of 100 is more than two of three", 3, x.many(67));
        Due.is("1 has one of three, and 0 too", 3, x.many(33));
        Due.is("34 of 100 is more than one of three", 1, x.many(34));
        x.thing(0, 40, 50, 90, 0);
        Due.is("not below counts", 3, x.many(1));
        Due.is("1 has two of three", 3, x.many(66));
        Due.is("0 has all", 1, x.many(67));
        Due.is("0 has all", 1, x.many(100));
        Due.is("n 0", NONE, x.many(0));
        Due.is("n 101", NONE, x.many(101));
        Due.is("n -1", NONE, x.many(-1));
        Due.read(x, "must 1 45;");
        Due.is("of those in", 1, x.many(1));
        Due.read(x, "must 1 100;");
        Due.is("none is in", 0, x.many(1));
        Due.read(x, "a twice 0 1; a twice 1 0; a most 2 10;");
        Due.is("nothing fits", NONE, x.many(50));
        // 0 over 1 over 2 over 0, each by two of three: each is outdone.
        x = Due.with(3, new int[][] {{30, 20, 10}, {10, 30, 20}, {20, 10, 30}}, "a more 0 1; a more 1 2; a more 2 0;");
        Due.is("round and round", 0, x.many(60));
        Due.is("none outdoes", 7, x.many(70));
    }

    /** 34 */
    private static void count() {
        EveryMeasure x = Due.with(2, new int[][] {{10, 10}, {20, 20}, {30, 5}}, "must 1 6; a more 0 1; b more 0 1; b twice 0 1;");
        x.row(5);
        Due.feed(x, "ab");
        x.voices(2);
        int[] due = {2, 3, 2, 3, 2, 2, 2, 1};
        for (int what = 0; what < 8; what++) Due.is("count(" + what + ")", due[what], x.count(what));
        Due.is("count(8)", NONE, x.count(8));
        Due.is("count(-1)", NONE, x.count(-1));
        Due.is("count of much", NONE, x.count(Integer.MAX_VALUE));
    }
}
