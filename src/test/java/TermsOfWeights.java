/** The boundaries told in the part 'Terms', 3 to 5: corners, better, best, questions, needs, why, rows and the ways beside. */
final class TermsOfWeights {
    private static final int NONE = EveryMeasure.NONE;
    private static final int[][] NO_THINGS = {};
    /** By the share x of measure 0: 20 + 60x, 70 - 40x, 45. */
    private static final int[][] THREE = {{80, 20}, {30, 70}, {45, 45}};
    /** Nothing but equal weights of two measures. */
    private static final String EVEN = "a more 0 1; a more 1 0; ";
    /** Nothing but weights 2 to 3. */
    private static final String TWO_TO_THREE = "a step 3 0 2 1; a step 2 1 3 0; ";

    private TermsOfWeights() { }

    private static void corners(EveryMeasure x, long[]... due) {
        Due.is("corners", due.length, x.count(6));
        for (int c = 0; c < due.length; c++) {
            for (int m = 0; m < due[c].length; m++) Due.is("corner(" + c + ", " + m + ")", due[c][m], x.corner(c, m));
        }
        Due.is("no corner more", NONE, x.corner(due.length, 0));
    }

    private static long[] at(long... weights) {
        return weights;
    }

    // ---- 3

    @Says(promise = 0, words = "==== 3. CORNERS are those WEIGHTS that FIT, as whole numbers without a common divisor")
    static void terms3_cornersWithoutACommonDivisor() {
        corners(Due.with(2, NO_THINGS, "a step 100 0 75 1;"), at(1, 0), at(3, 4));
        corners(Due.with(2, NO_THINGS, "a step 4 0 2 1;"), at(1, 0), at(1, 2));
        corners(Due.with(2, NO_THINGS, "a step 9 0 6 1;"), at(1, 0), at(2, 3));
        corners(Due.with(2, NO_THINGS, "a step 99 0 98 1; a step 99 1 100 0;"), at(98, 99), at(99, 100));
        corners(Due.with(2, NO_THINGS, "a step 100 0 100 1; b most 0 50;"), at(1, 1));
        corners(Due.with(1, NO_THINGS, ""), at(1));
        corners(Due.with(4, NO_THINGS, "a step 99 0 100 1; a step 100 1 99 0; a step 99 1 100 2; a step 100 2 99 1; a step 99 2 100 3; a step 100 3 99 2;"),
            at(1000000, 990000, 980100, 970299));
        // (50, 50, 0) and (50, 25, 25) have much in common.
        corners(Due.with(3, NO_THINGS, "a least 0 50; a most 0 50; b least 1 25;"), at(1, 1, 0), at(2, 1, 1));
    }

    @Says(promise = 0, words = "that are no sum of two others that FIT (not multiples of them):")
    static void terms3_cornersAreNoSumOfOthers() {
        // Rows that are told twice, follow from others, or touch a corner alone add no corner.
        corners(Due.with(3, NO_THINGS, "a more 0 1; b more 0 1; c step 2 0 1 1;"), at(0, 0, 1), at(1, 0, 0), at(1, 1, 0));
        corners(Due.with(3, NO_THINGS, "a most 0 100; b least 1 0; c step 1 0 1 1;"), at(0, 0, 1), at(1, 0, 0), at(1, 1, 0));
        corners(Due.with(4, NO_THINGS, EVEN), at(0, 0, 0, 1), at(0, 0, 1, 0), at(1, 1, 0, 0));
        corners(Due.with(3, NO_THINGS, "a most 0 0; b most 1 0;"), at(0, 0, 1));
        // Flat ones, and rows told twice: two corners may lie on two rows in common and yet span no edge.
        corners(Due.with(4, NO_THINGS, EVEN + "a most 2 50; a twice 2 1;"), at(0, 0, 0, 1), at(0, 0, 1, 1), at(1, 1, 2, 0));
        corners(Due.with(4, NO_THINGS, "a more 3 0; a most 1 50; a more 3 0; a most 3 20; a least 0 20;"), at(1, 0, 3, 1), at(2, 5, 1, 2));
        corners(Due.with(4, NO_THINGS, "a most 0 50; b most 1 50; c most 2 50; d most 3 50;"),
            at(0, 0, 1, 1), at(0, 1, 0, 1), at(0, 1, 1, 0), at(1, 0, 0, 1), at(1, 0, 1, 0), at(1, 1, 0, 0));
    }

    /** 12 sayings and the 4 weights that are not below 0 leave 28 corners at the most (2 * 16 - 4): as PlainMeasure tells them. */
    @Says(promise = 0, words = "CORNERS are those WEIGHTS that FIT")
    static void terms3_theMostCorners() {
        int[][] figures = {{71, 27, 93, 31}, {3, 4, 58, 89}, {2, 28, 53, 20}, {56, 3, 45, 72}, {69, 85, 97, 9}, {46, 7, 99, 23}, {29, 96, 46, 85}, {94, 80, 60, 100}};
        String text = "a better 3 2;a most 3 41;a better 0 5;a better 4 1;a most 1 56;a most 0 55;a better 6 1;a most 2 66;a better 7 5;a better 7 6;a better 4 3;a better 0 1;";
        EveryMeasure x = Due.with(4, figures, text);
        PlainMeasure plain = plain(figures, text);
        Due.is("corners", 28, x.count(6));
        for (int c = 0; c <= 28; c++) {
            for (int m = 0; m < 4; m++) Due.is("corner(" + c + ", " + m + ")", plain.corner(c, m), x.corner(c, m));
        }
        Due.is("best", plain.best(0), x.best(0));
        Due.is("next", plain.next(2), x.next(2));
        Due.is("few", plain.few(), x.few());
        for (int t = 0; t < 8; t++) {
            Due.is("need of " + t, plain.need(t, 2, false), x.need(t, 2, false));
            Due.is("beaten " + t, plain.beaten(t), x.beaten(t));
            Due.is("share of " + t, plain.share(t, 20), x.share(t, 20));
            Due.is("row", true, x.row((t + 4) % 8) && plain.row((t + 4) % 8));
            Due.is("judged", plain.judged(1), x.judged(1));
        }
    }

    private static PlainMeasure plain(int[][] figures, String text) {
        PlainMeasure plain = new PlainMeasure();
        plain.measures(4);
        for (int t = 0; t < figures.length; t++) plain.thing(t, figures[t][0], figures[t][1], figures[t][2], figures[t][3]);
        for (int i = 0; i < text.length(); i++) plain.feed(text.charAt(i), 0, 0);
        Due.is("plainly", 0, plain.choice());
        return plain;
    }

    @Says(promise = 0, words = "numbered in order, by WEIGHT 0, then 1, and so on, the least first.")
    static void terms3_cornersInOrder() {
        corners(Due.with(3, NO_THINGS, "a least 0 25; a most 0 50;"), at(1, 0, 1), at(1, 0, 3), at(1, 1, 0), at(1, 3, 0));
        corners(Due.with(4, NO_THINGS, ""), at(0, 0, 0, 1), at(0, 0, 1, 0), at(0, 1, 0, 0), at(1, 0, 0, 0));
        // By the numbers, not by what they are to one another: 9 to 1 stands ahead of 10 to 21.
        corners(Due.with(2, NO_THINGS, "a step 1 1 1 0; a step 21 0 10 1;"), at(1, 1), at(10, 21));
        corners(Due.with(2, NO_THINGS, "a step 9 1 1 0; a step 21 0 10 1;"), at(9, 1), at(10, 21));
    }

    @Says(promise = 0, words = "All WEIGHTS that FIT are sums of multiples of CORNERS.")
    static void terms3_whatFitsLiesBetweenTheCorners() {
        EveryMeasure x = Due.with(2, NO_THINGS, "a step 7 0 5 1; b step 3 1 2 0;");
        corners(x, at(3, 2), at(5, 7));
        for (int a = 0; a <= 12; a++) {
            for (int b = a == 0 ? 1 : 0; b <= 12; b++) {
                boolean between = 7 * a >= 5 * b && 3 * b >= 2 * a;
                Due.is("fits(" + a + ", " + b + ")", between ? 1 : 0, x.fits(a, b, 0, 0));
            }
        }
    }

    @Says(promise = 0, words = "THEY CAN if there are some.")
    static void terms3_theyCan() {
        EveryMeasure x = Due.with(2, THREE, "a most 0 40; b least 0 40;");
        corners(x, at(2, 3));
        Due.is("they can: best", 2, x.best(1));
        Due.is("they can: small", NONE, x.small(0));
        Due.read(x, "a most 0 40; b least 0 41;");
        corners(x);
        Due.is("they can't: best", NONE, x.best(1));
        Due.is("they can't: small", 2, x.small(0));
        x.voices(1);
        corners(x, at(0, 1), at(2, 3));
    }

    @Says(promise = 0, words = "If not: SMALL is the least set of SAYINGS that count with which nothing FITS (1 to 4 of them;")
    static void terms3_smallHas1To4() {
        EveryMeasure x = Due.with(4, new int[][] {{1, 1, 1, 1}, {2, 2, 2, 2}}, "h more 0 1; b better 0 1;");
        Due.is("one", 1, x.small(0));
        Due.is("one", 2, x.small(1));
        Due.read(x, "h more 2 3; a twice 0 1; c most 1 0; d least 1 1; b twice 1 0;");
        Due.is("two", 2, x.small(0));
        Due.is("two", 12, x.small(1));
        x = Due.with(3, NO_THINGS, "a most 0 33; a most 1 33; a most 2 33;");
        Due.is("three", 3, x.small(0));
        Due.is("three", 7, x.small(1));
        Due.read(x, "a most 0 33; a most 1 33; a most 2 34;");
        Due.is("just enough", NONE, x.small(0));
        x = Due.with(4, NO_THINGS, "a most 0 25; b most 1 25; c most 2 25; d most 3 24;");
        Due.is("four", 4, x.small(0));
        Due.is("four", 15, x.small(1));
        Due.read(x, "a most 0 25; b most 1 25; c most 2 25; d most 3 25;");
        Due.is("just enough", NONE, x.small(0));
        Due.read(x, "a most 0 25; b most 1 25; c most 2 25; d most 3 24; e least 0 26;");
        Due.is("fewer than four", 17, x.small(1));
        x.voices(15);
        Due.is("those that count", 15, x.small(1));
    }

    @Says(promise = 0, words = "of as many the first in order of SAYINGS).")
    static void terms3_smallIsTheFirstInOrder() {
        EveryMeasure x = Due.with(3, NO_THINGS, "a least 0 60; b least 1 30; c most 1 20; d most 0 50;");
        Due.is("{0, 3} ahead of {1, 2}", 9, x.small(1));
        Due.read(x, "a most 0 100; a most 2 0; b least 0 60; b least 2 1; c least 2 1;");
        Due.is("{1, 3} ahead of {1, 4}", 10, x.small(1));
        x.voices(255 - 2);
        Due.is("without b", 18, x.small(1));
        x = Due.with(2, new int[][] {{1, 1}, {2, 2}}, "a twice 0 1; a twice 1 0; c better 0 1; d better 0 1;");
        Due.is("the first one alone", 4, x.small(1));
    }

    @Says(promise = 0, words = {"Of two THINGS that are IN: a is BETTER than b by all WEIGHTS that FIT (2), by some (1), by none (0):",
        "GOOD of a is not below that of b."})
    static void terms3_better() {
        EveryMeasure x = Due.with(2, new int[][] {{60, 40}, {40, 60}, {60, 41}, {59, 39}, {60, 40}}, "a more 0 1;");
        Due.is("as good at the edge: by all", 2, x.better(0, 1));
        Due.is("as good at the edge: by some", 1, x.better(1, 0));
        Due.is("as good at 1 to 0: by some", 1, x.better(0, 2));
        Due.is("nowhere", 0, x.better(3, 0));
        Due.is("everywhere", 2, x.better(0, 3));
        Due.is("equal", 2, x.better(0, 4));
        Due.is("equal", 2, x.better(4, 0));
        Due.read(x, "a step 100 0 99 1;");
        Due.is("beyond the edge: by some", 1, x.better(0, 1));
        Due.read(x, "a step 99 0 100 1;");
        Due.is("short of the edge: by none", 0, x.better(1, 0));
        Due.read(x, "a more 0 1; must 1 40;");
        Due.is("out", NONE, x.better(0, 3));
    }

    @Says(promise = 0, words = "GAP of a to b: the most by which b is GOOD above a (below 0 if a is always above).")
    static void terms3_gap() {
        EveryMeasure x = Due.with(2, THREE, "a twice 0 1;");
        // Corners (1, 0): 80, 30, 45, and (2, 1): 60, 130/3, 45.
        Due.is("always above", -50, x.gap(0, 1, 0));
        Due.is("by 50 / 3", 3, x.gap(0, 1, 1));
        Due.is("always below", 50, x.gap(1, 0, 0));
        Due.is("by 15 at the most", 15, x.gap(1, 2, 0));
        Due.is("above by 5 / 3 at the least", -5, x.gap(2, 1, 0));
        Due.is("above by 5 / 3 at the least", 3, x.gap(2, 1, 1));
        Due.read(x, "a more 0 1;");
        Due.is("as good at the edge", 0, x.gap(0, 1, 0));
        Due.is("as good at the edge", 1, x.gap(0, 1, 1));
        Due.read(x, EVEN);
        Due.is("as good everywhere", 0, x.gap(0, 1, 0));
        Due.is("as good everywhere", 0, x.gap(1, 0, 0));
        Due.is("-5", -5, x.gap(0, 2, 0));
    }

    @Says(promise = 0, words = "A THING that is IN MAY BE BEST if by some WEIGHTS that FIT its GOOD is not below that of any THING that is IN")
    static void terms3_mayBeBest() {
        EveryMeasure x = Due.with(2, THREE, "");
        x.thing(2, 50, 50, 0, 0);
        Due.is("as good at one half", 7, x.best(0));
        x.thing(2, 50, 49, 0, 0);
        Due.is("nowhere", 3, x.best(0));
        Due.read(x, "must 0 40;");
        Due.is("one is out", 5, x.best(0));
        x.thing(2, 80, 19, 0, 0);
        Due.is("as good at 1 to 0", 5, x.best(0));
        x.thing(2, 79, 20, 0, 0);
        Due.is("as good at 0 to 1", 5, x.best(0));
        x.thing(2, 79, 19, 0, 0);
        Due.is("nowhere", 1, x.best(0));
        x = Due.with(4, new int[][] {{100}, {0, 100}, {0, 0, 100}, {0, 0, 0, 100}, {25, 25, 25, 25}}, "");
        Due.is("in the midst of all", 31, x.best(0));
        x.thing(4, 25, 25, 25, 24);
        Due.is("nowhere", 15, x.best(0));
        x = Due.with(2, new int[][] {{50, 50}, {80, 20}, {20, 80}}, "");
        Due.is("the first one, between the corners alone", 7, x.best(0));
        x.thing(0, 50, 49, 0, 0);
        Due.is("nowhere", 6, x.best(0));
    }

    @Says(promise = 0, words = "it is SURELY BEST if by all.")
    static void terms3_surelyBest() {
        EveryMeasure x = Due.with(2, THREE, "a more 0 1;");
        Due.is("as good at the edge", 1, x.best(1));
        Due.read(x, "a step 100 0 99 1;");
        Due.is("beyond the edge", 0, x.best(1));
        Due.read(x, EVEN);
        Due.is("two", 3, x.best(1));
        Due.read(x, "must 0 40; must 1 40;");
        Due.is("alone", 4, x.best(1));
        Due.read(x, "must 0 81;");
        Due.is("none is in", 0, x.best(1));
    }

    @Says(promise = 0, words = "REGRET: the greatest GAP to a THING that is IN (itself too: 0 at least).")
    static void terms3_regret() {
        EveryMeasure x = Due.with(2, THREE, "a twice 0 1;");
        Due.is("above all others: 0", 0, x.regret(0, 0));
        Due.is("0 / 1", 1, x.regret(0, 1));
        Due.is("the greatest of 50 and 15", 50, x.regret(1, 0));
        Due.is("the greatest of 35 and -5 / 3", 35, x.regret(2, 0));
        Due.read(x, "a twice 0 1; must 1 30;");
        Due.is("what is out is not asked", 15, x.regret(1, 0));
        Due.read(x, "must 1 46;");
        Due.is("alone", 0, x.regret(1, 0));
        Due.is("alone", 1, x.regret(1, 1));
    }

    @Says(promise = 0, words = "LEAST: the THING of the least REGRET (of equal ones the first).")
    static void terms3_least() {
        EveryMeasure x = Due.with(2, new int[][] {{10, 90}, {30, 70}, {50, 51}, {70, 30}, {70, 30}}, "");
        // Against 70 and 90: 60, 40, 39, 60, 60.
        Due.is("39", 2, x.least());
        x.thing(2, 50, 50, 0, 0);
        Due.is("40 and 40: the first", 1, x.least());
        x.drop(1);
        Due.is("40", 2, x.least());
        x.drop(2);
        Due.is("60, 60, 60: the first", 0, x.least());
        Due.read(x, "must 0 11;");
        Due.is("0 is out: the first of two", 3, x.least());
        x = Due.with(2, new int[][] {{13, 14}, {12, 12}, {20, 10}, {10, 20}}, "a step 3 0 1 1; b step 3 1 1 0;");
        // At 3 to 1 and 1 to 3: 53 / 4, 12, 70 / 4, 50 / 4 and 55 / 4, 12, 50 / 4, 70 / 4.
        Due.is("17 / 4", 17, x.regret(0, 0));
        Due.is("17 / 4", 4, x.regret(0, 1));
        Due.is("11 / 2", 11, x.regret(1, 0));
        Due.is("5", 5, x.regret(2, 0));
        Due.is("17 / 4 are less than 5", 0, x.least());
    }

    @Says(promise = 0, words = "One that MAY not BE BEST is BEATEN by a set of others if by all WEIGHTS that FIT one of them is GOOD above it:")
    static void terms3_beaten() {
        EveryMeasure x = Due.with(2, new int[][] {{100, 0}, {0, 100}, {50, 49}}, "");
        Due.is("one of two everywhere", 3, x.beaten(2));
        x.thing(2, 50, 50, 0, 0);
        Due.is("not above: it may be best", NONE, x.beaten(2));
        x.thing(3, 50, 50, 0, 0);
        x.thing(2, 49, 49, 0, 0);
        Due.is("one alone", 8, x.beaten(2));
        // 3 is not above it at 1 to 0: it alone does not beat.
        x.thing(3, 49, 60, 0, 0);
        Due.is("not above at an edge: another must come in", 3, x.beaten(2));
        x.drop(1);
        Due.is("with it", 9, x.beaten(2));
        Due.read(x, "a most 0 99;");
        Due.is("without the edge", 8, x.beaten(2));
    }

    @Says(promise = 0, words = "the set of the fewest (1 to 3;")
    static void terms3_beatenBy1To3() {
        EveryMeasure x = Due.with(4, new int[][] {{24, 24, 24, 24}, {100}, {0, 100}, {0, 0, 100}, {0, 0, 0, 100}}, "");
        Due.is("it may not be best", 30, x.best(0));
        Due.is("four are too many", NONE, x.beaten(0));
        Due.read(x, "a most 0 0;");
        Due.is("three", 28, x.beaten(0));
        Due.read(x, "a most 0 0; b most 3 0;");
        Due.is("two", 12, x.beaten(0));
        Due.read(x, "a most 0 0; b most 3 0; c most 1 10;");
        Due.is("one", 8, x.beaten(0));
        Due.read(x, "");
        x.thing(5, 25, 25, 25, 25);
        Due.is("one where four were needed", 32, x.beaten(0));
    }

    @Says(promise = 0, words = "of as many the first in order).")
    static void terms3_beatenByTheFirstInOrder() {
        EveryMeasure x = Due.with(2, new int[][] {{0, 100}, {100, 0}, {10, 100}, {100, 10}, {50, 50}}, "");
        Due.is("{0, 3} ahead of {1, 2}", 9, x.beaten(4));
        x.thing(3, 100, 0, 0, 0);
        Due.is("{1, 2} ahead of {2, 3}", 6, x.beaten(4));
        x.thing(6, 60, 60, 0, 0);
        x.thing(5, 70, 70, 0, 0);
        Due.is("5 ahead of 6", 32, x.beaten(4));
        Due.is("6 by 5", 32, x.beaten(6));
    }

    // ---- 4

    @Says(promise = 0, words = {"==== 4. A QUESTION about two THINGS that are IN (a below b) is answered with:",
        "a is GOOD not below b (yes), or b not below a (no); an answer counts as a SAYING more."})
    static void terms4_question() {
        EveryMeasure x = Due.with(2, new int[][] {{0, 0}, {70, 70}, {0, 0}, {100, 0}, {0, 0}, {0, 100}}, "must 0 0;");
        x.drop(0);
        x.drop(2);
        x.drop(4);
        // At .7 and .3 the middle one is as good as the others, so it counts behind yes and no.
        Due.is("a is below b", 3, x.next(0));
        Due.is("b", 5, x.next(1));
        Due.is("two behind each answer", 2, x.next(2));
        Due.is("one question more by the answer", 2, x.few());
        x.thing(1, 49, 49, 0, 0);
        // 3 and 5 meet at one half: behind yes 3, and 5 at the edge.
        Due.is("as good counts for both answers", 2, x.next(2));
        Due.is("a may be one that is never best", 1, x.next(0));
        x.thing(0, 100, 100, 0, 0);
        Due.read(x, "must 0 99;");
        Due.is("only of those in", 0, x.next(0));
        Due.is("only of those in", 3, x.next(1));
    }

    @Says(promise = 0, words = {"NEXT: the QUESTION by which the greater count of THINGS that MAY BE BEST behind yes and behind no is the least",
        "of equal ones the first."})
    static void terms4_next() {
        EveryMeasure x = Due.with(2, new int[][] {{70, 70}, {100, 0}, {0, 100}}, "");
        // Behind 'is 0 not below 1' all three, behind 'is 1 not below 2' two, likewise behind no.
        Due.is("a", 1, x.next(0));
        Due.is("b", 2, x.next(1));
        Due.is("the greater count", 2, x.next(2));
        x.thing(3, 100, 0, 0, 0);
        // Behind yes of (1, 2) now 0, 1 and 3.
        Due.is("of equal ones the first: a", 1, x.next(0));
        Due.is("of equal ones the first: b", 2, x.next(1));
        Due.is("the greater count", 3, x.next(2));
        EveryMeasure one = Due.with(1, new int[][] {{5}, {6}, {7}}, "");
        Due.is("never more than one may be best", 1, one.next(2));
        Due.is("the first question", 0, one.next(0));
        x.drop(0);
        Due.is("the first of all that are equal", 1, x.next(0));
        Due.is("the first of all that are equal", 2, x.next(1));
    }

    @Says(promise = 0, words = "(0 behind an answer that nothing FITS)")
    static void terms4_nextBehindAnAnswerThatNothingFits() {
        EveryMeasure x = Due.with(2, new int[][] {{70, 70}, {100, 0}, {0, 100}}, "a least 0 71;");
        Due.is("behind yes nothing fits, behind no one may be best", 1, x.next(2));
        Due.is("a", 0, x.next(0));
        Due.is("b", 1, x.next(1));
        Due.read(x, "a least 0 70;");
        Due.is("as good at the edge", 2, x.next(2));
        Due.is("a", 0, x.next(0));
        Due.is("b", 1, x.next(1));
        x.thing(0, 20, 20, 0, 0);
        x.thing(1, 10, 10, 0, 0);
        x.thing(2, 20, 20, 0, 0);
        Due.read(x, "");
        Due.is("two are always best, whatever is asked", 2, x.next(2));
        Due.is("the first question", 0, x.next(0));
        Due.is("the first question", 1, x.next(1));
    }

    @Says(promise = 0, words = "FEW: how many QUESTIONS (0 to 2) are asked at most, if asked well (the next one by the answer), until a THING is SURELY BEST")
    static void terms4_few() {
        EveryMeasure x = Due.with(2, new int[][] {{100, 0}, {92, 38}, {71, 71}, {38, 92}, {0, 100}}, "");
        Due.is("five in turn are too many", NONE, x.few());
        x.drop(2);
        Due.is("four in turn, by the answer", 2, x.few());
        x.drop(0);
        Due.is("three in turn", 2, x.few());
        x.drop(4);
        Due.is("two", 1, x.few());
        x.thing(5, 92, 38, 0, 0);
        Due.is("two of them equal", 1, x.few());
        x.thing(6, 10, 10, 0, 0);
        Due.is("one that is never best", 1, x.few());
        Due.read(x, "a more 0 1;");
        Due.is("one is surely best", 0, x.few());
        Due.read(x, "must 0 93;");
        Due.is("none is in", NONE, x.few());
        // In turn 2, 0, 1, 3: only 0 and 1 are as good as one another where two stand on either side.
        x = Due.with(2, new int[][] {{92, 38}, {38, 92}, {100, 0}, {0, 96}}, "");
        Due.is("about 0 and 1 first, then by the answer", 2, x.few());
        x = Due.with(2, new int[][] {{70, 70}, {100, 0}, {0, 100}}, "");
        Due.is("the first one between the others", 2, x.few());
        x.thing(0, 50, 50, 0, 0);
        Due.is("where they are as good", 1, x.few());
    }

    @Says(promise = 0, words = "(or nothing FITS).")
    static void terms4_fewUntilNothingFits() {
        // Three and four around one point of three measures; some answers leave nothing behind others.
        EveryMeasure x = Due.with(3, new int[][] {{90, 0, 0}, {0, 90, 0}, {0, 0, 90}}, "");
        Due.is("three around", 2, x.few());
        x.thing(3, 10, 10, 10, 0);
        Due.is("one more that is never best", 2, x.few());
        x.thing(3, 40, 40, 40, 0);
        Due.is("one more in the midst", NONE, x.few());
        x = Due.with(2, new int[][] {{60, 60}, {50, 50}, {40, 40}}, "");
        Due.is("each answer against the first leaves nothing", 0, x.few());
        x.thing(3, 100, 0, 0, 0);
        Due.is("one question", 1, x.few());
    }

    @Says(promise = 0, words = "NEED of a THING in a MEASURE: the least by which its VALUE must grow (to 100 at most, cap not asked) so that it MAY BE (is SURELY) BEST, all else as it is")
    static void terms4_need() {
        EveryMeasure x = Due.with(2, new int[][] {{50, 0}, {90, 40}}, "cap 0 60; " + EVEN);
        Due.is("to 100, above the cap", 50, x.need(0, 0, true));
        Due.is("to 100, above the cap", 50, x.need(0, 0, false));
        Due.is("50 by the other", 50, x.need(0, 1, true));
        x.thing(1, 90, 41, 0, 0);
        Due.is("to 101 it can't", NONE, x.need(0, 0, true));
        Due.is("to 101 it can't", NONE, x.need(0, 0, false));
        Due.is("51 by the other", 51, x.need(0, 1, false));
        x = Due.with(2, THREE, "");
        Due.is("thing 2 may with 10", 10, x.need(2, 0, false));
        Due.is("50 by 1 to be sure of 70", 50, x.need(0, 1, true));
        x.thing(0, 80, 70, 0, 0);
        Due.is("with 50 it is", 1, x.best(1));
        x.thing(0, 80, 69, 0, 0);
        Due.is("with 49 it is not", 0, x.best(1));
        x = Due.with(2, new int[][] {{10, 10}, {0, 100}}, "cap 1 20;");
        Due.is("the other's cap holds", 10, x.need(0, 1, true));
    }

    @Says(promise = 0, words = {"SAYINGS by the VALUES of now", "(0: it is)."})
    static void terms4_needByTheValuesOfNow() {
        // By 2 to 3 it is 50 and 53: two more by 0 make 54, though by then nothing would fit 'better 1 0'.
        EveryMeasure x = Due.with(2, new int[][] {{10, 10}, {10, 11}}, "b better 1 0; " + TWO_TO_THREE);
        Due.is("sure", 2, x.need(0, 0, true));
        Due.is("may be", 2, x.need(0, 0, false));
        Due.is("it is", 0, x.need(1, 0, true));
        Due.is("it is", 0, x.need(1, 1, false));
        Due.read(x, "b better 0 1;");
        Due.is("by 1 to 0 alone they are equal: it is", 0, x.need(0, 1, true));
    }

    @Says(promise = 0, words = {"SHARE: of the WEIGHTS of whole numbers whose sum is n (1 to 20) those that FIT",
        "and those of them by which a THING is BEST (not below any)."})
    static void terms4_share() {
        int[] of20 = {0, 1, 21, 231, 1771};
        for (int k = 1; k <= 4; k++) {
            EveryMeasure x = Due.with(k, new int[][] {{5, 5, 5, 5}, {5, 5, 5, 5}}, "");
            Due.is("sum 1", k, x.share(NONE, 1));
            Due.is("sum 20", of20[k], x.share(NONE, 20));
            Due.is("as good as any", of20[k], x.share(0, 20));
            Due.is("as good as any", of20[k], x.share(1, 20));
            Due.is("sum 0", NONE, x.share(NONE, 0));
            Due.is("sum 21", NONE, x.share(NONE, 21));
            Due.is("sum 0", NONE, x.share(0, 0));
            Due.is("sum 21", NONE, x.share(0, 21));
        }
        EveryMeasure x = Due.with(2, THREE, "a more 1 0;");
        Due.is("from 0 to 10 of 20", 11, x.share(NONE, 20));
        Due.is("as good at 10 of 20", 1, x.share(0, 20));
        Due.is("the other by all", 11, x.share(1, 20));
        Due.is("the third by none", 0, x.share(2, 20));
        Due.is("of 19 never as good", 0, x.share(0, 19));
        Due.read(x, "a more 1 0; must 1 30;");
        Due.is("what is out is not asked of", NONE, x.share(0, 20));
        Due.read(x, "a more 1 0; must 0 40;");
        Due.is("what is out bars nobody: 45 against up to 50", 9, x.share(2, 20));
        int[][] things = {{60, 20, 40, 10}, {30, 70, 20, 50}, {20, 30, 70, 40}, {45, 45, 40, 30}};
        for (String text : new String[] {"a more 0 1;", "a more 1 0;", "a more 2 0;", "a more 0 2;", "a more 1 2; b least 0 20;", "a twice 1 2; b most 1 60;",
            "a step 3 2 2 1;", "a least 1 30; b most 2 40;", "a better 0 1; b better 1 2;", "a better 3 0; b most 1 50; c least 2 10;"}) {
            for (int n : new int[] {1, 4, 6}) {
                counted(3, things, text, n);
                counted(4, things, text, n);
                counted(4, things, text + " c more 3 0;", n);
            }
        }
    }

    /** Shares are what one finds by going through all weights. */
    private static void counted(int measures, int[][] things, String text, int n) {
        EveryMeasure x = Due.with(measures, things, text);
        int fit = 0;
        int[] best = new int[things.length];
        for (int a = 0; a <= n; a++) {
            for (int b = 0; b <= n - a; b++) {
                for (int c = measures == 3 ? n - a - b : 0; c <= n - a - b; c++) {
                    if (x.fits(a, b, c, n - a - b - c) == 0) continue;
                    fit++;
                    int[] good = new int[things.length];
                    int greatest = 0;
                    for (int t = 0; t < things.length; t++) {
                        int last = measures == 4 ? things[t][3] : 0;
                        good[t] = a * things[t][0] + b * things[t][1] + c * things[t][2] + (n - a - b - c) * last;
                        greatest = Math.max(greatest, good[t]);
                    }
                    for (int t = 0; t < things.length; t++) if (good[t] == greatest) best[t]++;
                }
            }
        }
        Due.is("those of " + n + " that fit '" + text + "'", fit, x.share(NONE, n));
        for (int t = 0; t < things.length; t++) Due.is("those of " + n + " by which " + t + " is best, '" + text + "'", best[t], x.share(t, n));
    }

    @Says(promise = 0, words = {"WHY a is BETTER than b by all: the least set of SAYINGS that count (0 to 3) by which it is, without all the others",
        "(of as many the first in order)."})
    static void terms4_why() {
        EveryMeasure x = Due.with(4, new int[][] {{10}, {0, 10}, {0, 0, 0, 10}, {10, 10}},
            "b more 2 3; a more 0 1; c more 0 1; a more 1 2; d more 0 3;");
        Due.is("none is needed", 0, x.why(3, 0, 0));
        Due.is("none is needed", 0, x.why(3, 0, 1));
        Due.is("one", 1, x.why(0, 1, 0));
        Due.is("1 ahead of 2", 2, x.why(0, 1, 1));
        Due.is("two", 2, x.why(1, 2, 0));
        Due.is("0 and 3", 9, x.why(1, 2, 1));
        Due.is("one instead of three", 16, x.why(0, 2, 1));
        x.voices(7);
        Due.is("three", 3, x.why(0, 2, 0));
        Due.is("0, 1, 3 ahead of 0, 2, 3", 11, x.why(0, 2, 1));
        x.voices(6);
        Due.is("those that count", 4, x.why(0, 1, 1));
        // {0, 3} ahead of {1, 2}: each pair says that 0 has as much as both others.
        x = Due.with(3, new int[][] {{50, 0, 0}, {0, 50, 50}}, "a most 1 25; b most 2 30; b most 1 20; a most 2 25;");
        Due.is("two", 2, x.why(0, 1, 0));
        Due.is("the first two in order", 9, x.why(0, 1, 1));
        x.voices(2);
        Due.is("those of b", 6, x.why(0, 1, 1));
    }

    @Says(promise = 0, words = "HOLDS: as BETTER without one SAYING.")
    static void terms4_holds() {
        EveryMeasure x = Due.with(2, THREE, "a more 0 1; b step 100 0 99 1; c most 0 100;");
        Due.is("without the first it holds by some", 1, x.holds(0, 0, 1));
        Due.is("without the second by all", 2, x.holds(1, 0, 1));
        Due.is("without the last by all", 2, x.holds(2, 0, 1));
        Due.is("the other way by some", 1, x.holds(1, 1, 0));
        Due.read(x, "a step 100 1 99 0; b step 99 0 100 1;");
        Due.is("nothing but by 100 to 99: by none", 0, x.holds(0, 1, 0));
        Due.is("better() itself", 0, x.better(1, 0));
        Due.is("without the other by some", 1, x.holds(1, 1, 0));
    }

    @Says(promise = 0, words = {"EDGE: the least VALUE of a in a MEASURE (0 to 100) with which it is still BETTER than b by all",
        "SAYINGS by the VALUES of now."})
    static void terms4_edge() {
        EveryMeasure x = Due.with(2, new int[][] {{10, 10}, {10, 8}, {3, 2}, {10, 10}, {100, 100}, {100, 100}}, TWO_TO_THREE);
        // 50 against 44: 6 may go, three times 2 or twice 3.
        Due.is("7", 7, x.edge(0, 1, 0));
        Due.is("8", 8, x.edge(0, 1, 1));
        Due.is("equal", 10, x.edge(0, 3, 0));
        Due.is("100", 100, x.edge(4, 5, 0));
        Due.is("not below 0", 0, x.edge(0, 2, 0));
        x.thing(2, 10, 3, 0, 0);
        // 29: 21 may go, and 20 do: all of 10 by 0, 7 of 10 by 1.
        Due.is("down to 0", 0, x.edge(0, 2, 0));
        Due.is("down to 3", 3, x.edge(0, 2, 1));
        x.thing(2, 10, 4, 0, 0);
        Due.is("18 may go: down to 1", 1, x.edge(0, 2, 0));
        Due.read(x, "a better 0 1;");
        Due.is("the saying stays by 10, not by less", 10, x.edge(0, 1, 0));
        Due.is("8 by the other", 8, x.edge(0, 1, 1));
    }

    @Says(promise = 0, words = {"AGREE: the most PERSONS whose SAYINGS together let some WEIGHTS FIT (those without SAYINGS count, too);",
        "of as many the least as bits (a lowest)."})
    static void terms4_agree() {
        EveryMeasure x = Due.with(2, new int[][] {{1, 1}, {2, 2}}, "");
        Due.is("all", 8, x.agree(0));
        Due.is("all", 255, x.agree(1));
        Due.read(x, "a most 0 50; h least 0 50;");
        Due.is("they meet at one half", 8, x.agree(0));
        Due.read(x, "a most 0 50; h least 0 51;");
        Due.is("one must be left out", 7, x.agree(0));
        Due.is("the least as bits: without h", 127, x.agree(1));
        Due.read(x, "a most 0 50; h least 0 51; b least 0 52;");
        Due.is("without a there are more", 254, x.agree(1));
        x.voices(1);
        Due.is("the voices are not asked", 254, x.agree(1));
        StringBuilder all = new StringBuilder();
        for (char p = 'a'; p <= 'h'; p++) all.append(p).append(" better 0 1;");
        Due.read(x, all.toString());
        Due.is("nobody", 0, x.agree(0));
        Due.is("nobody", 0, x.agree(1));
        Due.read(x, all.substring(0, all.length() - 13) + "h more 0 1;");
        Due.is("h alone", 1, x.agree(0));
        Due.is("h alone", 128, x.agree(1));
        Due.read(x, "a most 0 50;".repeat(11) + "a least 0 50;");
        Due.is("the twelfth saying is heard, and fits", 255, x.agree(1));
        Due.read(x, "a most 0 50;".repeat(11) + "a least 0 51;");
        Due.is("the twelfth saying is heard, and does not", 254, x.agree(1));
    }

    @Says(promise = 0, words = {"GIVE WAY: the fewest PERSONS of the VOICES without whom something FITS and a THING is SURELY BEST;",
        "of as many the least as bits."})
    static void terms4_giveWay() {
        EveryMeasure x = Due.with(2, new int[][] {{80, 20}, {20, 80}}, "c more 0 1;");
        Due.is("nobody need", 0, x.yields(0));
        Due.is("nobody need", 0, x.yields(1));
        Due.read(x, "c step 100 0 99 1;");
        Due.is("beyond the edge nothing is sure", NONE, x.yields(0));
        Due.read(x, "b twice 0 1; d twice 1 0;");
        Due.is("one of two", 1, x.yields(0));
        Due.is("the least as bits", 2, x.yields(1));
        Due.read(x, "b twice 0 1; d twice 1 0; h more 0 1;");
        Due.is("d, since b and h go together", 8, x.yields(1));
        x.voices(255 - 128);
        Due.is("of the voices b or d", 2, x.yields(1));
        x.voices(255 - 2);
        Due.is("of the voices d or h", 8, x.yields(1));
        x.voices(8);
        Due.is("of the voices nobody need", 0, x.yields(1));
        x.voices(0);
        Due.is("no voices, nothing is sure", NONE, x.yields(1));
        Due.read(x, "b more 0 1; b more 1 0;");
        x.voices(255);
        Due.is("both are surely best", 0, x.yields(1));
        Due.read(x, "a most 0 100;".repeat(11) + "a more 0 1;");
        Due.is("the twelfth saying is heard, and settles it", 0, x.yields(1));
        Due.read(x, "a more 0 1;".repeat(11) + "a twice 1 0;");
        Due.is("the twelfth saying is heard, and nothing is left", NONE, x.yields(1));
    }

    @Says(promise = 0, words = {"ROW: THINGS told by hand in order (8 at most, each once).", "It FITS if by some WEIGHTS that FIT each is GOOD not below the next one;"})
    static void terms4_row() {
        EveryMeasure x = Due.with(2, new int[][] {{80, 20}, {30, 70}, {50, 50}, {9, 9}, {8, 8}, {7, 7}, {6, 6}, {5, 5}}, "");
        Due.is("none", 1, x.judged(0));
        int[] order = {0, 2, 1, 3, 4, 5, 6, 7};
        for (int i = 0; i < 8; i++) {
            Due.is("row(" + order[i] + ")", true, x.row(order[i]));
            Due.is("row(" + order[i] + ") again", false, x.row(order[i]));
            Due.is("fits", 1, x.judged(0));
            Due.is("places", i + 1, x.count(7));
        }
        for (int t = 0; t < 8; t++) Due.is("a ninth", false, x.row(t));
        Due.is("eight", 8, x.count(7));
        Due.read(x, "a most 0 50;");
        Due.is("all as good at one half", 1, x.judged(0));
        Due.read(x, "a most 0 49;");
        Due.is("beyond it not", 0, x.judged(0));
    }

    @Says(promise = 0, words = "else BROKEN is the least place (the first THING's is 0) up to which it does not.")
    static void terms4_broken() {
        EveryMeasure x = Due.with(2, new int[][] {{19, 19}, {18, 18}, {17, 17}, {16, 16}, {15, 15}, {14, 14}, {13, 13}, {20, 20}}, "");
        for (int t = 0; t < 8; t++) x.row(t);
        Due.is("at the last place", 7, x.judged(1));
        x.thing(7, 13, 13, 0, 0);
        Due.is("as good: not broken", NONE, x.judged(1));
        x.thing(7, 13, 14, 0, 0);
        Due.is("by 1 to 0 as good: not broken", NONE, x.judged(1));
        x.thing(1, 20, 20, 0, 0);
        Due.is("at the second", 1, x.judged(1));
        x.thing(4, 99, 99, 0, 0);
        Due.is("the least of two places", 1, x.judged(1));
        // Each two beside each other go, but 0 over 1 asks for .5 and more, 2 over 3 for less.
        x = Due.with(2, new int[][] {{80, 20}, {20, 80}, {10, 19}, {12, 16}}, "");
        for (int t = 0; t < 4; t++) x.row(t);
        Due.is("3 to 2: from .5 to .6", NONE, x.judged(1));
        Due.read(x, "a least 0 61;");
        Due.is("not beyond", 3, x.judged(1));
        Due.read(x, "a most 0 49;");
        Due.is("nor ahead", 1, x.judged(1));
    }

    // ---- 5

    @Says(promise = 0, words = "==== 5. BESIDE: WORST: THINGS that are IN whose least VALUE is the greatest.")
    static void terms5_worst() {
        EveryMeasure x = Due.with(3, new int[][] {{50, 20, 90}, {30, 40, 31}, {100, 100, 29}, {99, 30, 30}, {31, 31, 31}}, "");
        Due.is("31", 16, x.worst());
        x.drop(4);
        Due.is("30 and 30", 10, x.worst());
        Due.read(x, "must 1 31;");
        Due.is("one is out", 2, x.worst());
        Due.read(x, "cap 0 20;");
        Due.is("20 by all", 15, x.worst());
        // Only the measures that there are.
        x = Due.with(2, new int[][] {{50, 50}, {49, 99}}, "");
        Due.is("by two", 1, x.worst());
    }

    @Says(promise = 0, words = {"FIRST: of those IN the ones with the greatest VALUE of the first MEASURE of an order, of these by the next one, and so on",
        "(an order: its MEASURES as digits of a number, the first one highest, each once)."})
    static void terms5_first() {
        EveryMeasure x = Due.with(3, new int[][] {{50, 20, 90}, {50, 40, 30}, {10, 100, 30}, {50, 40, 30}}, "");
        Due.is("0 1 2", 10, x.first(12));
        Due.is("0 2 1", 1, x.first(21));
        Due.is("1 0 2", 4, x.first(102));
        Due.is("1 2 0", 4, x.first(120));
        Due.is("2 0 1", 1, x.first(201));
        Due.is("2 1 0", 1, x.first(210));
        for (int order : new int[] {11, 13, 2, 1, 0, 112, 122, 211, 321, 1012, 2012, 212, 22, 10012}) Due.is("first(" + order + ")", NONE, x.first(order));
        Due.read(x, "must 2 31;");
        Due.is("of those in", 1, x.first(102));
    }

    @Says(promise = 0, words = {"MANY by N (1 to 100): a OUTDOES b if by all WEIGHTS that FIT the WEIGHTS of MEASURES in which a's VALUE is not below b's are N of 100 of all or more;",
        "those IN whom none OUTDOES that they do not OUTDO."})
    static void terms5_many() {
        // Weights 1 to 3: 0 has 25 of 100, 1 has 75.
        EveryMeasure x = Due.with(2, new int[][] {{60, 40}, {40, 60}}, "a step 3 0 1 1; a step 1 1 3 0;");
        Due.is("each outdoes the other", 3, x.many(1));
        Due.is("25 of 100 are enough for both", 3, x.many(25));
        Due.is("26 of 100 for one", 2, x.many(26));
        Due.is("75 of 100 for one", 2, x.many(75));
        Due.is("76 of 100 for none", 3, x.many(76));
        Due.is("all for none", 3, x.many(100));
        x.thing(0, 60, 60, 0, 0);
        Due.is("not below counts: 0 has all", 1, x.many(100));
        Due.is("75 of 100 for both", 3, x.many(75));
        Due.is("76 of 100 for one", 1, x.many(76));
        x.thing(1, 60, 60, 0, 0);
        Due.is("equal ones outdo each other", 3, x.many(100));
        x.thing(0, 60, 40, 0, 0);
        x.thing(1, 40, 60, 0, 0);
        Due.read(x, "a least 1 75;");
        Due.is("by all weights 75 and more", 2, x.many(75));
        Due.is("not by all 76", 3, x.many(76));
        Due.read(x, "a least 1 75; must 0 41;");
        Due.is("of those in", 1, x.many(75));
        Due.read(x, "");
        Due.is("by all weights none", 3, x.many(1));
        Due.read(x, "a most 0 0;");
        Due.is("by the one that fits 1 has all", 2, x.many(100));
    }
}
