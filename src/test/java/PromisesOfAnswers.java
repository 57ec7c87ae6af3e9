/** The boundaries told in promises 12 to 19: corners, what can't all be, what is better, best, least regretted, beaten. */
final class PromisesOfAnswers {
    private static final int NONE = EveryMeasure.NONE;
    private static final int[] OTHER_WHATS = {-1, 2, 3, Integer.MAX_VALUE, Integer.MIN_VALUE};
    /** In Kept.rich() one is out, the others are not told. */
    private static final int[] NOT_IN = {5, 3, 7, -1, 8, 32, Integer.MAX_VALUE, Integer.MIN_VALUE};
    /** By the share x of measure 0: 20 + 60x, 70 - 40x, 45. */
    private static final int[][] THREE = {{80, 20}, {30, 70}, {45, 45}};

    private PromisesOfAnswers() { }

    // ---- 12

    @Says(promise = 12, words = "A WEIGHT of a CORNER;")
    static void p12_aWeight() {
        EveryMeasure x = Due.with(4, new int[][] {}, "a step 99 0 100 1; a step 100 1 99 0; a step 99 1 100 2; a step 100 2 99 1; a step 99 2 100 3; a step 100 3 99 2;");
        long[] due = {1000000, 990000, 980100, 970299};
        for (int m = 0; m < 4; m++) Due.is("corner(0, " + m + ")", due[m], x.corner(0, m));
        x.measures(1);
        Due.is("one measure", 1, x.corner(0, 0));
        x.measures(3);
        Due.is("a weight 0", 0, x.corner(2, 1));
        Due.is("a weight 1", 1, x.corner(2, 0));
    }

    @Says(promise = 12, words = "NONE: none such.")
    static void p12_noneSuch() {
        EveryMeasure x = Kept.rich();
        int corners = x.count(6);
        Due.is("there are some", true, corners > 2);
        Due.is("the last one", true, x.corner(corners - 1, 2) >= 0);
        for (int c : new int[] {-1, corners, corners + 1, 44, 1000, Integer.MAX_VALUE, Integer.MIN_VALUE}) {
            Kept.isNone("corner(" + c + ", 0)", y -> y.corner(c, 0));
        }
        for (int m : new int[] {-1, 3, 4, Integer.MAX_VALUE, Integer.MIN_VALUE}) Kept.isNone("corner(0, " + m + ")", y -> y.corner(0, m));
        Kept.isNoneIfNothingFits("corner(0, 0)", 1, y -> y.corner(0, 0));
    }

    // ---- 13

    @Says(promise = 13, words = "SMALL, what 0: how many, 1: as bits by SAYINGS;")
    static void p13_howManyAndBits() {
        EveryMeasure x = Due.with(3, new int[][] {}, "c more 0 1; a least 0 60; b least 1 30; b most 0 100; a most 0 59;");
        Due.is("how many", 2, x.small(0));
        Due.is("as bits", 2 + 16, x.small(1));
        StringBuilder all = new StringBuilder();
        for (int i = 0; i < 10; i++) all.append("a most 0 100; ");
        Due.read(x, all + "a most 2 0; h least 2 1;");
        Due.is("the last two of twelve", 2, x.small(0));
        Due.is("the last two of twelve", 1024 + 2048, x.small(1));
    }

    @Says(promise = 13, words = "NONE: THEY CAN")
    static void p13_theyCan() {
        Kept.isNone("small(0)", x -> x.small(0));
        Kept.isNone("small(1)", x -> x.small(1));
        EveryMeasure x = Due.with(2, THREE, "a most 0 10; b least 0 10;");
        Due.is("one line of weights fits", NONE, x.small(0));
        Due.read(x, "a most 0 10; b least 0 11;");
        Due.is("nothing fits", 3, x.small(1));
        x.voices(2);
        Due.is("with b alone they can", NONE, x.small(1));
        x.voices(0);
        Due.is("with nobody they can", NONE, x.small(1));
    }

    @Says(promise = 13, words = "none of 4 at most")
    static void p13_noneOf4AtMost() {
        // Four always do: weights of four measures have three ways to go (Helly), so this NONE is never due.
        EveryMeasure x = Due.with(4, new int[][] {}, "a most 0 30; a most 1 30; a most 2 30; a more 0 1; a more 1 2; a more 2 3; b twice 3 0; c least 3 11;");
        // 2, 3, 5 and 6 leave 15, 15, 30 and 30 at most; the ring of 3, 4, 5 and 6 comes behind.
        Due.is("four of eight", 4, x.small(0));
        Due.is("2, 3, 5 and 6", 4 + 8 + 32 + 64, x.small(1));
        Due.read(x, "a more 0 1; b more 1 0; c more 2 3; d more 3 2;" + "a most 0 24; a most 1 24; a most 2 24; a most 3 24;".repeat(2));
        Due.is("four of twelve", 4, x.small(0));
        Due.is("0, 2, 4 and 6: w0 over w1, w2 over w3, and both too small", 1 + 4 + 16 + 64, x.small(1));
    }

    @Says(promise = 13, words = "another what.")
    static void p13_anotherWhat() {
        for (int what : OTHER_WHATS) {
            Kept.isNone(Kept::nothingFits, "small(" + what + ")", x -> x.small(what));
            Kept.isNone("small(" + what + ")", x -> x.small(what));
        }
        Due.is("small(0)", 2, Kept.nothingFits().small(0));
        Due.is("small(1)", 3, Kept.nothingFits().small(1));
    }

    // ---- 14

    @Says(promise = 14, words = "BETTER of two THINGS: 2, 1, 0;")
    static void p14_twoOneZero() {
        EveryMeasure x = Due.with(2, THREE, "a more 0 1;");
        Due.is("by all", 2, x.better(0, 1));
        Due.is("by some", 1, x.better(1, 0));
        Due.is("by none", 0, x.better(2, 0));
        Due.is("45 to 70 - 40x from one half on", 1, x.better(2, 1));
        x.thing(7, 80, 20, 0, 0);
        Due.is("the last thing", 2, x.better(7, 0));
    }

    @Says(promise = 14, words = "NONE: one is not IN")
    static void p14_notIn() {
        for (int t : NOT_IN) {
            Kept.isNone("better(" + t + ", 0)", x -> x.better(t, 0));
            Kept.isNone("better(0, " + t + ")", x -> x.better(0, t));
        }
        EveryMeasure x = Due.with(2, THREE, "must 1 20;");
        Due.is("just in", 1, x.better(0, 1));
        Due.read(x, "must 1 21;");
        Due.is("just out", NONE, x.better(0, 1));
    }

    @Says(promise = 14, words = "the same")
    static void p14_theSame() {
        for (int t : new int[] {0, 1, 2, 4, 5, 3}) Kept.isNone("better(" + t + ", " + t + ")", x -> x.better(t, t));
    }

    @Says(promise = 14, words = "nothing FITS.")
    static void p14_nothingFits() {
        Kept.isNoneIfNothingFits("better(0, 1)", 0, x -> x.better(0, 1));
        Kept.isNoneIfNothingFits("better(1, 0)", 2, x -> x.better(1, 0));
    }

    // ---- 15

    @Says(promise = 15, words = "GAP of a to b, as a fraction in lowest terms (below above 0), what 0: above, 1: below.")
    static void p15_inLowestTerms() {
        EveryMeasure x = Due.with(2, THREE, "a twice 0 1;");
        Due.is("-50 / 3", -50, x.gap(0, 1, 0));
        Due.is("-50 / 3", 3, x.gap(0, 1, 1));
        Due.is("50 / 1", 50, x.gap(1, 0, 0));
        Due.is("50 / 1", 1, x.gap(1, 0, 1));
        x.thing(2, 80, 20, 0, 0);
        Due.is("0 / 1", 0, x.gap(0, 2, 0));
        Due.is("0 / 1", 1, x.gap(0, 2, 1));
        // By 1 to 3: 6 / 4, 2 / 4 and 4 / 4 above or below.
        x = Due.with(2, new int[][] {{10, 12}, {10, 10}, {12, 10}, {14, 10}}, "a step 3 0 1 1; a step 1 1 3 0;");
        long[][] due = {{0, -3, -1, -1}, {3, 0, 1, 1}, {1, -1, 0, 1}, {1, -1, -1, 0}};
        long[][] below = {{1, 2, 1, 2}, {2, 1, 2, 1}, {1, 2, 1, 2}, {2, 1, 2, 1}};
        for (int a = 0; a < 4; a++) {
            for (int b = 0; b < 4; b++) {
                if (a == b) continue;
                Due.is("gap(" + a + ", " + b + ", 0)", due[a][b], x.gap(a, b, 0));
                Due.is("gap(" + a + ", " + b + ", 1)", below[a][b], x.gap(a, b, 1));
            }
        }
        // (1, 0, 0, 0) against (0, 0, 0, 1) by the one line of weights whose sum is 3940399.
        x = Due.with(4, new int[][] {{1, 0, 0, 0}, {0, 0, 0, 1}},
            "a step 99 0 100 1; a step 100 1 99 0; a step 99 1 100 2; a step 100 2 99 1; a step 99 2 100 3; a step 100 3 99 2;");
        Due.is("-29701 / 3940399", -29701, x.gap(0, 1, 0));
        Due.is("-29701 / 3940399", 3940399, x.gap(0, 1, 1));
        Due.is("29701 / 3940399", 29701, x.gap(1, 0, 0));
    }

    @Says(promise = 15, words = "NoSuchElementException: as of better()")
    static void p15_asOfBetter() {
        for (int t : NOT_IN) {
            Kept.isThrown("gap(" + t + ", 0, 0)", x -> x.gap(t, 0, 0));
            Kept.isThrown("gap(0, " + t + ", 1)", x -> x.gap(0, t, 1));
        }
        for (int t : new int[] {0, 4, 5, 3}) Kept.isThrown("gap(" + t + ", " + t + ", 0)", x -> x.gap(t, t, 0));
        Kept.isThrown(Kept::nothingFits, "gap(0, 1, 0)", x -> x.gap(0, 1, 0));
        EveryMeasure x = Due.with(2, THREE, "a most 0 10; b least 0 10;");
        Due.is("at 1 to 9: 66 - 26", 40, x.gap(0, 1, 0));
    }

    @Says(promise = 15, words = "another what.")
    static void p15_anotherWhat() {
        for (int what : OTHER_WHATS) Kept.isThrown("gap(0, 1, " + what + ")", x -> x.gap(0, 1, what));
    }

    // ---- 16

    @Says(promise = 16, words = "THINGS as bits, what 0: that MAY BE BEST, 1: SURELY BEST;")
    static void p16_asBits() {
        EveryMeasure x = Due.with(2, THREE, "");
        Due.is("may be", 3, x.best(0));
        Due.is("surely", 0, x.best(1));
        x.thing(7, 80, 70, 0, 0);
        Due.is("may be", 128 + 1 + 2, x.best(0));
        Due.is("surely", 128, x.best(1));
        for (int t = 0; t < 8; t++) x.thing(t, 5, 5, 5, 5);
        Due.is("all", 255, x.best(0));
        Due.is("all", 255, x.best(1));
        for (int t = 0; t < 8; t++) x.drop(t);
        Due.is("none is told", 0, x.best(0));
        Due.is("none is told", 0, x.best(1));
        x.thing(0, 1, 1, 0, 0);
        Due.read(x, "must 0 2;");
        Due.is("none is in", 0, x.best(0));
        Due.is("none is in", 0, x.best(1));
    }

    @Says(promise = 16, words = "NONE: nothing FITS")
    static void p16_nothingFits() {
        Kept.isNoneIfNothingFits("best(0)", 2, x -> x.best(0));
        Kept.isNoneIfNothingFits("best(1)", 2, x -> x.best(1));
        Kept.isNone(() -> Due.with(2, new int[][] {}, "a most 0 10; b least 0 11;"), "without things", x -> x.best(0));
    }

    @Says(promise = 16, words = "another what.")
    static void p16_anotherWhat() {
        for (int what : OTHER_WHATS) Kept.isNone("best(" + what + ")", x -> x.best(what));
    }

    // ---- 17

    @Says(promise = 17, words = "REGRET, what 0: above, 1: below;")
    static void p17_fraction() {
        EveryMeasure x = Due.with(2, THREE, "a step 2 0 1 1; b twice 1 0;");
        // By 1 to 2: 40, 170 / 3, 45.
        Due.is("50 / 3", 50, x.regret(0, 0));
        Due.is("50 / 3", 3, x.regret(0, 1));
        Due.is("0 / 1", 0, x.regret(1, 0));
        Due.is("0 / 1", 1, x.regret(1, 1));
        Due.is("35 / 3", 35, x.regret(2, 0));
        Due.read(x, "");
        Due.is("in lowest terms: 50 / 1", 50, x.regret(0, 0));
        Due.is("in lowest terms: 50 / 1", 1, x.regret(0, 1));
        Due.read(x, "a more 0 1; a more 1 0;");
        Due.is("100 / 2 less 90 / 2 is 5 / 1", 5, x.regret(2, 0));
        Due.is("100 / 2 less 90 / 2 is 5 / 1", 1, x.regret(2, 1));
    }

    @Says(promise = 17, words = "NONE: not IN")
    static void p17_notIn() {
        for (int t : NOT_IN) Kept.isNone("regret(" + t + ", 0)", x -> x.regret(t, 0));
        for (int t : NOT_IN) Kept.isNone("regret(" + t + ", 1)", x -> x.regret(t, 1));
    }

    @Says(promise = 17, words = "nothing FITS")
    static void p17_nothingFits() {
        Kept.isNoneIfNothingFits("regret(0, 0)", 40, x -> x.regret(0, 0));
        Kept.isNoneIfNothingFits("regret(1, 1)", 1, x -> x.regret(1, 1));
    }

    @Says(promise = 17, words = "another what.")
    static void p17_anotherWhat() {
        for (int what : OTHER_WHATS) Kept.isNone("regret(0, " + what + ")", x -> x.regret(0, what));
    }

    // ---- 18

    @Says(promise = 18, words = "LEAST;")
    static void p18_least() {
        EveryMeasure x = Due.with(2, THREE, "");
        // 50, 50, 35.
        Due.is("the middle one", 2, x.least());
        x.drop(2);
        Due.is("of equal ones the first", 0, x.least());
        x.drop(0);
        Due.is("alone", 1, x.least());
        x.drop(1);
        x.thing(7, 0, 0, 0, 0);
        Due.is("the last number", 7, x.least());
    }

    @Says(promise = 18, words = "NONE: nothing FITS")
    static void p18_nothingFits() {
        Kept.isNoneIfNothingFits("least()", 1, x -> x.least());
    }

    @Says(promise = 18, words = "none is IN.")
    static void p18_noneIsIn() {
        Kept.isNone(EveryMeasure::new, "none is told", x -> x.least());
        Kept.isNone(() -> Due.with(2, THREE, "must 0 81;"), "all are out", x -> x.least());
        Due.is("one is in", 0, Due.with(2, THREE, "must 0 80;").least());
    }

    // ---- 19

    @Says(promise = 19, words = "By whom a THING is BEATEN, as bits;")
    static void p19_asBits() {
        EveryMeasure x = Due.with(2, THREE, "");
        Due.is("by two", 3, x.beaten(2));
        x.thing(7, 46, 46, 0, 0);
        Due.is("by the last one", 128, x.beaten(2));
        Due.is("46 is not enough either", 3, x.beaten(7));
        x.thing(0, 40, 40, 0, 0);
        x.thing(1, 41, 41, 0, 0);
        Due.is("by the first of three", 2, x.beaten(0));
        Due.is("by the first of two", 4, x.beaten(1));
    }

    @Says(promise = 19, words = "NONE: not IN")
    static void p19_notIn() {
        for (int t : NOT_IN) Kept.isNone("beaten(" + t + ")", x -> x.beaten(t));
        EveryMeasure x = Due.with(2, new int[][] {{30, 70}, {29, 69}}, "must 1 69;");
        Due.is("just in", 1, x.beaten(1));
        Due.read(x, "must 1 70;");
        Due.is("just out", NONE, x.beaten(1));
    }

    @Says(promise = 19, words = "it MAY BE BEST")
    static void p19_mayBeBest() {
        Kept.Maker even = () -> Due.with(2, new int[][] {{80, 20}, {30, 70}, {50, 50}}, "");
        for (int t = 0; t < 3; t++) {
            int thing = t;
            Kept.isNone(even, "beaten(" + t + ")", x -> x.beaten(thing));
        }
        EveryMeasure x = even.make();
        x.thing(2, 50, 49, 0, 0);
        Due.is("just below", 3, x.beaten(2));
    }

    @Says(promise = 19, words = "nothing FITS")
    static void p19_nothingFits() {
        Kept.isNoneIfNothingFits("beaten(2)", 2, x -> x.beaten(2));
    }

    @Says(promise = 19, words = "more than 3.")
    static void p19_moreThan3() {
        int[][] apart = {{24, 24, 24, 24}, {100}, {0, 100}, {0, 0, 100}, {0, 0, 0, 100}};
        Kept.isNone(() -> Due.with(4, apart, ""), "by four", x -> x.beaten(0));
        EveryMeasure x = Due.with(4, apart, "a most 3 0;");
        Due.is("by three", 14, x.beaten(0));
        Due.read(x, "a most 3 24;");
        Due.is("at 24 by three: 76 for the others", 14, x.beaten(0));
        Due.read(x, "a most 3 28;");
        Due.is("at 28 each of three may have 24, the fourth is needed", NONE, x.beaten(0));
    }
}
