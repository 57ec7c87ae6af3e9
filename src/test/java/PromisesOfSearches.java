/** The boundaries told in promises 20 to 34: questions, needs, shares, why, voices that go together, rows, the ways beside, counts. */
final class PromisesOfSearches {
    private static final int NONE = EveryMeasure.NONE;
    private static final int[] OTHER_WHATS = {-1, 2, 3, Integer.MAX_VALUE, Integer.MIN_VALUE};
    /** In Kept.rich() one is out, the others are not told. */
    private static final int[] NOT_IN = {5, 3, 7, -1, 8, 32, Integer.MAX_VALUE, Integer.MIN_VALUE};
    private static final int[] NO_MEASURES = {-1, 3, 4, Integer.MAX_VALUE, Integer.MIN_VALUE};
    /** By the share x of measure 0: 20 + 60x, 70 - 40x, 45. */
    private static final int[][] THREE = {{80, 20}, {30, 70}, {45, 45}};
    private static final String NOTHING = "a most 0 10; b least 0 11;";

    private PromisesOfSearches() { }

    // ---- 20

    @Says(promise = 20, words = "NEXT, what 0: a, 1: b, 2: the greater count;")
    static void p20_aBAndTheGreaterCount() {
        EveryMeasure x = Due.with(2, new int[][] {{70, 70}, {100, 0}, {0, 100}}, "");
        Due.is("a", 1, x.next(0));
        Due.is("b", 2, x.next(1));
        Due.is("the greater count", 2, x.next(2));
        x = new EveryMeasure();
        x.thing(6, 1, 2, 3, 0);
        x.thing(7, 1, 2, 3, 0);
        Due.is("a", 6, x.next(0));
        Due.is("b", 7, x.next(1));
        Due.is("the greater count", 2, x.next(2));
        for (int t = 0; t < 6; t++) x.thing(t, 1, 2, 3, 0);
        Due.is("a", 0, x.next(0));
        Due.is("b", 1, x.next(1));
        Due.is("the greater count", 8, x.next(2));
    }

    @Says(promise = 20, words = "NONE: nothing FITS")
    static void p20_nothingFits() {
        Kept.isNoneIfNothingFits("next(0)", 0, x -> x.next(0));
        Kept.isNoneIfNothingFits("next(1)", 1, x -> x.next(1));
        Kept.isNoneIfNothingFits("next(2)", 1, x -> x.next(2));
    }

    @Says(promise = 20, words = "fewer than two are IN")
    static void p20_fewerThanTwo() {
        for (int w = 0; w < 3; w++) {
            int what = w;
            Kept.isNone(EveryMeasure::new, "none is told", x -> x.next(what));
            Kept.isNone(() -> Due.with(2, THREE, "must 0 81;"), "none is in", x -> x.next(what));
            Kept.isNone(() -> Due.with(2, THREE, "must 0 46;"), "one is in", x -> x.next(what));
        }
        EveryMeasure x = Due.with(2, THREE, "must 0 45;");
        Due.is("two are in", 0, x.next(0));
        Due.is("two are in", 2, x.next(1));
        Due.is("two are in", 2, x.next(2));
    }

    @Says(promise = 20, words = "another what.")
    static void p20_anotherWhat() {
        for (int what : new int[] {-1, 3, 4, Integer.MAX_VALUE, Integer.MIN_VALUE}) Kept.isNone("next(" + what + ")", x -> x.next(what));
    }

    // ---- 21

    @Says(promise = 21, words = "FEW;")
    static void p21_few() {
        EveryMeasure x = Due.with(2, THREE, "must 1 46;");
        Due.is("one is in", 0, x.few());
        Due.read(x, "");
        Due.is("two in turn", 1, x.few());
        x.thing(2, 51, 51, 0, 0);
        Due.is("three in turn", 2, x.few());
        x.thing(2, 50, 50, 0, 0);
        Due.is("the third only where the others are as good", 1, x.few());
    }

    @Says(promise = 21, words = "NONE: nothing FITS")
    static void p21_nothingFits() {
        Kept.isNoneIfNothingFits("few()", 0, x -> x.few());
    }

    @Says(promise = 21, words = "none is IN")
    static void p21_noneIsIn() {
        Kept.isNone(EveryMeasure::new, "none is told", x -> x.few());
        Kept.isNone(() -> Due.with(2, THREE, "must 0 81;"), "all are out", x -> x.few());
        Due.is("one is in", 0, Due.with(2, THREE, "must 0 80;").few());
    }

    @Says(promise = 21, words = "more than 2.")
    static void p21_moreThan2() {
        int[][] arc = {{100, 0}, {92, 38}, {71, 71}, {38, 92}, {0, 100}};
        Kept.isNone(() -> Due.with(2, arc, ""), "five in turn", x -> x.few());
        EveryMeasure x = Due.with(2, arc, "");
        x.thing(4, 0, 92, 0, 0);
        Due.is("the fifth only where the fourth is as good", 2, x.few());
        x.thing(4, 0, 93, 0, 0);
        Due.is("the fifth in its turn", NONE, x.few());
    }

    // ---- 22

    @Says(promise = 22, words = "NEED;")
    static void p22_need() {
        EveryMeasure x = Due.with(2, THREE, "");
        Due.is("it may be", 0, x.need(0, 0, false));
        Due.is("it is not sure", 50, x.need(0, 1, true));
        Due.is("nor this one", 50, x.need(1, 0, true));
        Due.is("10 for the third", 10, x.need(2, 1, false));
        x.drop(1);
        Due.is("25 for two", 25, x.need(0, 1, true));
    }

    @Says(promise = 22, words = "NONE: not IN")
    static void p22_notIn() {
        for (int t : NOT_IN) {
            Kept.isNone("need(" + t + ", 0, true)", x -> x.need(t, 0, true));
            Kept.isNone("need(" + t + ", 0, false)", x -> x.need(t, 0, false));
        }
    }

    @Says(promise = 22, words = "no such MEASURE")
    static void p22_noSuchMeasure() {
        for (int m : NO_MEASURES) {
            Kept.isNone("need(0, " + m + ", true)", x -> x.need(0, m, true));
            Kept.isNone("need(0, " + m + ", false)", x -> x.need(0, m, false));
        }
        for (int k = 1; k <= 4; k++) {
            int measures = k;
            Kept.Maker one = () -> Due.with(measures, new int[][] {{4, 4, 4, 4}}, "");
            Due.is("the last of " + k, 0, one.make().need(0, k - 1, true));
            Kept.isNone(one, "one behind the last of " + k, x -> x.need(0, measures, true));
        }
    }

    @Says(promise = 22, words = "nothing FITS")
    static void p22_nothingFits() {
        // At 1 to 9: 26, 66, 45.
        Kept.isNoneIfNothingFits("need(0, 1, true)", 45, x -> x.need(0, 1, true));
        Kept.isNoneIfNothingFits("need(2, 1, false)", 24, x -> x.need(2, 1, false));
        Kept.isNoneIfNothingFits("need(1, 0, false)", 0, x -> x.need(1, 0, false));
    }

    @Says(promise = 22, words = "100 does not do.")
    static void p22_100DoesNotDo() {
        Kept.Maker lacks = () -> Due.with(2, new int[][] {{50, 0}, {100, 51}}, "a more 0 1; a more 1 0;");
        Kept.isNone(lacks, "surely", x -> x.need(0, 0, true));
        Kept.isNone(lacks, "perhaps", x -> x.need(0, 0, false));
        EveryMeasure x = lacks.make();
        x.thing(1, 100, 0, 0, 0);
        Due.is("100 does", 50, x.need(0, 0, true));
        Due.is("100 does", 50, x.need(0, 0, false));
        x.thing(1, 100, 1, 0, 0);
        Due.is("101", NONE, x.need(0, 0, true));
        Due.is("101", NONE, x.need(0, 0, false));
        Due.read(x, "");
        Due.is("a measure that may have no weight", NONE, x.need(0, 0, true));
        Due.is("it may be with 50", 50, x.need(0, 0, false));
        x.thing(0, 100, 0, 0, 0);
        Due.is("it has 100 already", 0, x.need(0, 0, false));
        Due.is("it has 100 already", NONE, x.need(0, 0, true));
        Due.is("1 by the other", 1, x.need(0, 1, true));
    }

    // ---- 23

    @Says(promise = 23, words = "SHARE of a THING (NONE: of all that FIT);")
    static void p23_share() {
        EveryMeasure x = Due.with(2, THREE, "");
        Due.is("of all", 21, x.share(NONE, 20));
        Due.is("10 to 20", 11, x.share(0, 20));
        Due.is("0 to 10", 11, x.share(1, 20));
        Due.is("never", 0, x.share(2, 20));
        Due.is("sum 1", 2, x.share(NONE, 1));
        Due.is("sum 1", 1, x.share(0, 1));
        Due.read(x, NOTHING);
        Due.is("nothing fits", 0, x.share(NONE, 20));
        Due.is("nothing fits", 0, x.share(0, 20));
        Due.read(x, "a most 0 10; b least 0 10;");
        Due.is("1 to 9 of 10", 1, x.share(NONE, 10));
        Due.is("2 to 18 of 20", 1, x.share(1, 20));
        Due.is("not of 19", 0, x.share(NONE, 19));
        x = new EveryMeasure();
        Due.is("without things", 231, x.share(NONE, 20));
    }

    @Says(promise = 23, words = "NONE: not IN")
    static void p23_notIn() {
        for (int t : NOT_IN) {
            if (t != NONE) Kept.isNone("share(" + t + ", 5)", x -> x.share(t, 5));
        }
        Kept.isNone("share(-2, 5)", x -> x.share(-2, 5));
        Kept.isNone(EveryMeasure::new, "none is told", x -> x.share(0, 5));
    }

    @Says(promise = 23, words = "another n.")
    static void p23_anotherN() {
        for (int n : new int[] {0, 21, -1, 22, Integer.MAX_VALUE, Integer.MIN_VALUE}) {
            Kept.isNone("share(0, " + n + ")", x -> x.share(0, n));
            Kept.isNone("share(NONE, " + n + ")", x -> x.share(NONE, n));
        }
        Due.is("1", 3, new EveryMeasure().share(NONE, 1));
        Due.is("20", 231, new EveryMeasure().share(NONE, 20));
    }

    // ---- 24

    @Says(promise = 24, words = "WHY, what 0: how many, 1: as bits;")
    static void p24_howManyAndBits() {
        EveryMeasure x = Due.with(3, new int[][] {{10, 0, 0}, {0, 10, 0}, {0, 0, 10}, {10, 10, 10}}, "h most 0 99; a more 1 2; b more 0 1;");
        Due.is("none", 0, x.why(3, 0, 0));
        Due.is("none", 0, x.why(3, 0, 1));
        Due.is("one", 1, x.why(0, 1, 0));
        Due.is("one", 4, x.why(0, 1, 1));
        Due.is("two", 2, x.why(0, 2, 0));
        Due.is("two", 6, x.why(0, 2, 1));
        StringBuilder all = new StringBuilder();
        for (int i = 0; i < 11; i++) all.append("c most 2 100;");
        Due.read(x, all + "d more 0 2;");
        Due.is("the last of twelve", 2048, x.why(0, 2, 1));
    }

    @Says(promise = 24, words = "NONE: a is not BETTER than b by all")
    static void p24_notByAll() {
        Kept.Maker three = () -> Due.with(2, THREE, "a more 0 1; must 0 31;");
        for (int w = 0; w < 2; w++) {
            int what = w;
            Kept.isNone(() -> Due.with(2, THREE, "a more 0 1;"), "by some", x -> x.why(1, 0, what));
            Kept.isNone(() -> Due.with(2, THREE, "a more 0 1;"), "by none", x -> x.why(2, 0, what));
            Kept.isNone(three, "one is out", x -> x.why(0, 1, what));
            Kept.isNone(three, "one is not told", x -> x.why(0, 3, what));
            Kept.isNone(three, "the same", x -> x.why(0, 0, what));
            Kept.isNone(three, "no numbers", x -> x.why(-1, 8, what));
            Kept.isNone(Kept::nothingFits, "nothing fits", x -> x.why(0, 1, what));
        }
        Due.is("by all", 1, three.make().why(0, 2, 0));
        EveryMeasure x = Due.with(2, THREE, "a step 100 0 99 1;");
        Due.is("just not by all", NONE, x.why(0, 1, 0));
        Due.read(x, "a step 100 0 100 1;");
        Due.is("just by all", 1, x.why(0, 1, 0));
    }

    @Says(promise = 24, words = "more than 3")
    static void p24_moreThan3() {
        // Three always do: those at a corner where the lead is least. So this NONE is never due; four that look needed are not.
        EveryMeasure x = Due.with(4, new int[][] {{40, 0, 0, 0}, {0, 40, 40, 40}}, "a most 1 20; b most 2 20; c most 3 10; d least 0 50;");
        Due.is("one", 8, x.why(0, 1, 1));
        x.voices(7);
        Due.is("three", 3, x.why(0, 1, 0));
        Due.is("three", 7, x.why(0, 1, 1));
        Due.read(x, "a most 1 20; b most 2 20; c most 3 11;");
        Due.is("just not", NONE, x.why(0, 1, 0));
        Due.read(x, "a most 1 20; b most 2 20; c most 3 10;".repeat(4));
        Due.is("the first three of twelve", 7, x.why(0, 1, 1));
        Due.read(x, "a most 1 21; a most 2 21; a most 3 21;".repeat(3) + "a most 1 20; a most 2 20; a most 3 10;");
        Due.is("the last three of twelve", 512 + 1024 + 2048, x.why(0, 1, 1));
    }

    @Says(promise = 24, words = "another what.")
    static void p24_anotherWhat() {
        Due.is("by all", 2, Kept.rich().better(0, 1));
        Due.is("what 0", 1, Kept.rich().why(0, 1, 0));
        for (int what : OTHER_WHATS) Kept.isNone("why(0, 1, " + what + ")", x -> x.why(0, 1, what));
    }

    // ---- 25

    @Says(promise = 25, words = "HOLDS without a SAYING (from 0, in the order of the text): 2, 1, 0;")
    static void p25_holds() {
        EveryMeasure x = Due.with(2, THREE, "a twice 0 1; cap 0 100; b more 0 1; must 0 0; c most 0 90;");
        Due.is("without twice, more still says it", 2, x.holds(0, 0, 1));
        Due.is("without more, twice still says it", 2, x.holds(1, 0, 1));
        Due.is("without twice by some", 1, x.holds(0, 1, 0));
        Due.is("without more by none", 0, x.holds(1, 1, 0));
        Due.is("the last one", 2, x.holds(2, 0, 1));
        x.voices(1);
        Due.is("the only one that counts", 1, x.holds(0, 0, 1));
        Due.is("one that does not count", 2, x.holds(1, 0, 1));
        Due.read(x, "a most 0 100;".repeat(11) + "a more 0 1;");
        Due.is("the last of twelve", 1, x.holds(11, 0, 1));
        Due.is("the first of twelve", 2, x.holds(0, 0, 1));
    }

    @Says(promise = 25, words = "NONE: one is not IN")
    static void p25_notIn() {
        for (int t : NOT_IN) {
            Kept.isNone("holds(0, " + t + ", 1)", x -> x.holds(0, t, 1));
            Kept.isNone("holds(0, 1, " + t + ")", x -> x.holds(0, 1, t));
        }
    }

    @Says(promise = 25, words = "the same")
    static void p25_theSame() {
        for (int t : new int[] {0, 1, 4, 5}) Kept.isNone("holds(0, " + t + ", " + t + ")", x -> x.holds(0, t, t));
    }

    @Says(promise = 25, words = "no such SAYING")
    static void p25_noSuchSaying() {
        Due.is("sayings", 6, Kept.rich().count(3));
        Due.is("the last one", 2, Kept.rich().holds(5, 0, 1));
        for (int s : new int[] {-1, 6, 11, 12, 32, Integer.MAX_VALUE, Integer.MIN_VALUE}) Kept.isNone("holds(" + s + ", 0, 1)", x -> x.holds(s, 0, 1));
        Kept.isNone(() -> Due.with(2, THREE, ""), "without sayings", x -> x.holds(0, 0, 1));
        Kept.isNone(() -> Due.with(2, THREE, "a more 0 1;".repeat(12)), "a 13th", x -> x.holds(12, 0, 1));
    }

    @Says(promise = 25, words = "nothing FITS without it.")
    static void p25_nothingFitsWithoutIt() {
        Kept.Maker three = () -> Due.with(2, THREE, "a most 0 10; b least 0 11; c more 0 1;");
        Kept.isNone(three, "without c a and b can't be", x -> x.holds(2, 0, 1));
        Kept.isNone(three, "without b a and c can't be", x -> x.holds(1, 0, 1));
        EveryMeasure x = three.make();
        Due.is("nothing fits with all", 0, x.count(6));
        Due.is("without a it does", 2, x.holds(0, 0, 1));
        x.voices(3);
        Due.is("c does not count: without a", 1, x.holds(0, 0, 1));
        Due.is("c does not count: without b", 0, x.holds(1, 0, 1));
        Due.is("c does not count: without c", NONE, x.holds(2, 0, 1));
    }

    // ---- 26

    @Says(promise = 26, words = "EDGE;")
    static void p26_edge() {
        EveryMeasure x = Due.with(2, THREE, "a more 0 1;");
        Due.is("0 over 1 by 50 at 1 to 0, by nothing at 1 to 1", 80, x.edge(0, 1, 0));
        Due.is("0 over 2 by 5 at 1 to 1: 10 may go", 70, x.edge(0, 2, 0));
        Due.is("0 over 2 by 5 at 1 to 1: 10 may go", 10, x.edge(0, 2, 1));
        Due.read(x, "a most 1 0;");
        Due.is("down to the other's", 30, x.edge(0, 1, 0));
        Due.is("what has no weight", 0, x.edge(0, 1, 1));
    }

    @Says(promise = 26, words = "NONE: no such MEASURE")
    static void p26_noSuchMeasure() {
        Due.is("by all", 2, Kept.rich().better(0, 1));
        Due.is("the last measure", true, Kept.rich().edge(0, 1, 2) >= 0);
        for (int m : NO_MEASURES) Kept.isNone("edge(0, 1, " + m + ")", x -> x.edge(0, 1, m));
    }

    @Says(promise = 26, words = "a is not BETTER than b by all.")
    static void p26_notByAll() {
        for (int t : NOT_IN) {
            Kept.isNone("edge(0, " + t + ", 0)", x -> x.edge(0, t, 0));
            Kept.isNone("edge(" + t + ", 0, 0)", x -> x.edge(t, 0, 0));
        }
        Kept.Maker three = () -> Due.with(2, THREE, "a more 0 1;");
        Kept.isNone(three, "the same", x -> x.edge(0, 0, 0));
        Kept.isNone(three, "by some", x -> x.edge(1, 0, 0));
        Kept.isNone(three, "by none", x -> x.edge(2, 0, 0));
        Kept.isNone(Kept::nothingFits, "nothing fits", x -> x.edge(1, 0, 0));
        Kept.isNone(() -> Due.with(2, THREE, "a step 100 0 99 1;"), "just not by all", x -> x.edge(0, 1, 0));
    }

    // ---- 27

    @Says(promise = 27, words = "AGREE, what 0: how many, 1: as bits;")
    static void p27_howManyAndBits() {
        EveryMeasure x = Due.with(2, THREE, "");
        Due.is("all", 8, x.agree(0));
        Due.is("all", 255, x.agree(1));
        Due.read(x, NOTHING);
        Due.is("all but b: without a it is more as bits", 7, x.agree(0));
        Due.is("all but b: without a it is more as bits", 253, x.agree(1));
        Due.read(x, "c twice 0 1; c twice 1 0;");
        Due.is("who can't be alone", 251, x.agree(1));
        x = Due.with(2, new int[][] {{1, 1}, {2, 2}}, "a better 0 1; b better 0 1; c better 0 1; d better 0 1; e better 0 1; f better 0 1; g better 0 1; h better 0 1;");
        Due.is("nobody", 0, x.agree(0));
        Due.is("nobody", 0, x.agree(1));
    }

    @Says(promise = 27, words = "NONE for another what.")
    static void p27_anotherWhat() {
        for (int what : OTHER_WHATS) {
            Kept.isNone("agree(" + what + ")", x -> x.agree(what));
            Kept.isNone(Kept::nothingFits, "agree(" + what + ")", x -> x.agree(what));
        }
    }

    // ---- 28

    @Says(promise = 28, words = "GIVE WAY, what 0: how many, 1: as bits;")
    static void p28_howManyAndBits() {
        EveryMeasure x = Due.with(2, THREE, "h more 0 1;");
        Due.is("nobody need", 0, x.yields(0));
        Due.is("nobody need", 0, x.yields(1));
        Due.read(x, "g least 0 60; h most 0 40;");
        Due.is("one", 1, x.yields(0));
        Due.is("g, the least as bits", 64, x.yields(1));
        Due.read(x, "f least 0 45; f most 0 55; g least 0 60; h most 0 40;");
        // f goes with none of them, and is not sure alone.
        Due.is("two", 2, x.yields(0));
        Due.is("f and g", 32 + 64, x.yields(1));
    }

    @Says(promise = 28, words = "NONE: none")
    static void p28_none() {
        for (int w = 0; w < 2; w++) {
            int what = w;
            Kept.isNone(() -> Due.with(2, THREE, ""), "nothing is sure", x -> x.yields(what));
            Kept.isNone(() -> Due.with(2, THREE, "a least 0 10; b most 0 90;"), "whoever yields", x -> x.yields(what));
            Kept.isNone(EveryMeasure::new, "none is told", x -> x.yields(what));
            Kept.isNone(() -> Due.with(2, THREE, "must 0 81; a more 0 1;"), "all are out", x -> x.yields(what));
        }
        Due.is("one is in", 0, Due.with(2, THREE, "must 0 80; a least 0 10;").yields(0));
        Due.is("one is in, nothing fits with both", 1, Due.with(2, THREE, "must 0 80; a most 0 10; b least 0 11;").yields(1));
    }

    @Says(promise = 28, words = "another what.")
    static void p28_anotherWhat() {
        for (int what : OTHER_WHATS) {
            Kept.isNone("yields(" + what + ")", x -> x.yields(what));
            Kept.isNone(() -> Due.with(2, THREE, "a more 0 1;"), "yields(" + what + ")", x -> x.yields(what));
        }
    }

    // ---- 29

    @Says(promise = 29, words = "A THING more in the ROW (NONE: the ROW is empty then): true;")
    static void p29_oneMore() {
        EveryMeasure x = new EveryMeasure();
        Due.is("an empty one may be emptied", true, x.row(NONE));
        for (int t = 7; t >= 0; t--) Due.is("row(" + t + "), told or not", true, x.row(t));
        Due.is("eight", 8, x.count(7));
        Due.is("row(NONE)", true, x.row(NONE));
        Due.is("empty", 0, x.count(7));
        Due.is("empty fits", 1, x.judged(0));
        Due.is("row(3) again", true, x.row(3));
        Due.is("one", 1, x.count(7));
    }

    @Says(promise = 29, words = "false: no such number")
    static void p29_noSuchNumber() {
        for (int t : new int[] {8, -2, 9, -8, 32, Integer.MAX_VALUE, Integer.MIN_VALUE}) Kept.isFalse("row(" + t + ")", x -> x.row(t));
        EveryMeasure x = new EveryMeasure();
        Due.is("row(0)", true, x.row(0));
        Due.is("row(7)", true, x.row(7));
    }

    @Says(promise = 29, words = "it is there.")
    static void p29_itIsThere() {
        Kept.isFalse("row(2)", x -> x.row(2));
        Kept.isFalse("row(0)", x -> x.row(0));
        Kept.Maker full = () -> {
            EveryMeasure x = Kept.rich();
            for (int t = 0; t < 8; t++) x.row(t);
            return x;
        };
        Due.is("eight", 8, full.make().count(7));
        for (int t = 0; t < 8; t++) {
            int thing = t;
            Kept.isFalse(full, "row(" + t + ")", x -> x.row(thing));
        }
    }

    // ---- 30

    @Says(promise = 30, words = "ROW, what 0: 1 it FITS, 0 it does not, 1: BROKEN;")
    static void p30_fitsAndBroken() {
        EveryMeasure x = Due.with(2, THREE, "");
        x.row(0);
        x.row(1);
        Due.is("from one half on", 1, x.judged(0));
        x.row(2);
        Due.is("70 - 40x over 45 up to .625", 1, x.judged(0));
        Due.read(x, "a least 0 63;");
        Due.is("not from .63 on", 0, x.judged(0));
        Due.is("broken at", 2, x.judged(1));
        Due.read(x, "a least 0 62;");
        Due.is("from .62 on", 1, x.judged(0));
        Due.read(x, "a most 0 50;");
        Due.is("at one half", 1, x.judged(0));
        Due.read(x, "a most 0 49;");
        Due.is("not up to .49", 0, x.judged(0));
        Due.is("broken at", 1, x.judged(1));
    }

    @Says(promise = 30, words = "NONE: one of it is not IN")
    static void p30_notIn() {
        for (int w = 0; w < 2; w++) {
            int what = w;
            for (int t : new int[] {5, 3, 6}) {
                Kept.isNone(() -> rowOf(Kept.rich(), t), "one of it is " + t, x -> x.judged(what));
                Kept.isNone(() -> rowOf(Kept.rich(), 1, 0, 2, t), "the last of it is " + t, x -> x.judged(what));
                Kept.isNone(() -> rowOf(Kept.rich(), t, 1, 0, 2), "the first of it is " + t, x -> x.judged(what));
            }
        }
        EveryMeasure x = rowOf(Due.with(2, THREE, "must 0 30;"), 0, 1);
        Due.is("just in", 1, x.judged(0));
        Due.read(x, "must 0 31;");
        Due.is("just out", NONE, x.judged(0));
    }

    private static EveryMeasure rowOf(EveryMeasure x, int... things) {
        x.row(NONE);
        for (int t : things) x.row(t);
        return x;
    }

    @Says(promise = 30, words = "nothing FITS")
    static void p30_nothingFits() {
        Kept.isNoneIfNothingFits("an empty row", 1, x -> x.judged(0));
        Kept.isNone(() -> rowOf(Kept.nothingFits(), 1, 2, 0), "1 over 2 over 0", x -> x.judged(0));
        Kept.isNone(() -> rowOf(Kept.nothingFits(), 0, 1), "0 over 1", x -> x.judged(0));
        Kept.isNone(() -> rowOf(Kept.nothingFits(), 0, 1), "0 over 1", x -> x.judged(1));
        EveryMeasure x = rowOf(Due.with(2, THREE, "a most 0 10; b least 0 10;"), 1, 2, 0);
        Due.is("1 to 9 fits: 1 over 2 over 0", 1, x.judged(0));
        Due.is("1 to 9 fits: 0 over 1", 0, rowOf(x, 0, 1).judged(0));
        Due.is("1 to 9 fits: 0 over 1", 1, x.judged(1));
    }

    @Says(promise = 30, words = "another what")
    static void p30_anotherWhat() {
        for (int what : OTHER_WHATS) Kept.isNone("judged(" + what + ")", x -> x.judged(what));
    }

    @Says(promise = 30, words = "it is not BROKEN (1).")
    static void p30_notBroken() {
        Kept.isNone(() -> Due.with(2, THREE, ""), "an empty row", x -> x.judged(1));
        Kept.isNone(() -> rowOf(Due.with(2, THREE, ""), 2), "one alone", x -> x.judged(1));
        Kept.isNone(() -> rowOf(Due.with(2, THREE, "a most 0 50;"), 0, 1, 2), "at one half", x -> x.judged(1));
        Due.is("beyond", 1, rowOf(Due.with(2, THREE, "a most 0 49;"), 0, 1, 2).judged(1));
    }

    // ---- 31

    @Says(promise = 31, words = "WORST as bits;")
    static void p31_asBits() {
        EveryMeasure x = Due.with(2, THREE, "");
        Due.is("45", 4, x.worst());
        x.thing(7, 45, 100, 0, 0);
        Due.is("45 and 45", 4 + 128, x.worst());
        x.thing(6, 46, 46, 0, 0);
        Due.is("46", 64, x.worst());
        Due.read(x, NOTHING);
        Due.is("what fits is not asked", 64, x.worst());
        for (int t = 0; t < 8; t++) x.thing(t, 0, t, 0, 0);
        Due.is("0 by all", 255, x.worst());
    }

    @Says(promise = 31, words = "0: none is IN.")
    static void p31_noneIsIn() {
        Due.is("none is told", 0, new EveryMeasure().worst());
        Due.is("all are out", 0, Due.with(2, THREE, "must 0 81;").worst());
        Due.is("one is in", 1, Due.with(2, THREE, "must 0 80;").worst());
    }

    // ---- 32

    @Says(promise = 32, words = "FIRST by an order, as bits;")
    static void p32_asBits() {
        EveryMeasure x = Due.with(2, THREE, "");
        Due.is("0 1", 1, x.first(1));
        Due.is("1 0", 2, x.first(10));
        x.thing(7, 80, 20, 0, 0);
        Due.is("two alike", 1 + 128, x.first(1));
        x.thing(7, 80, 21, 0, 0);
        Due.is("the next one parts them", 128, x.first(1));
        Due.read(x, NOTHING);
        Due.is("what fits is not asked", 128, x.first(1));
        Due.read(x, "must 0 81;");
        Due.is("none is in", 0, x.first(1));
        Due.is("none is told", 0, new EveryMeasure().first(12));
    }

    @Says(promise = 32, words = "NONE: no such order.")
    static void p32_noSuchOrder() {
        for (int order : new int[] {0, 1, 2, 10, 11, 20, 22, 111, 112, 13, 31, 123, 312, 1012, 1102, 12012, 1000000012, -1, -12, -102, -210, Integer.MAX_VALUE, Integer.MIN_VALUE}) {
            Kept.isNone("first(" + order + ")", x -> x.first(order));
        }
        for (int k = 1; k <= 4; k++) {
            int measures = k;
            int valid = 0;
            EveryMeasure x = Due.with(measures, new int[][] {{5, 5, 5, 5}}, "");
            for (int order = -40; order < 0; order++) Due.is("first(" + order + ") of " + k, NONE, x.first(order));
            for (int order = 0; order <= 400; order++) if (x.first(order) != NONE) valid++;
            int[] due = {0, 1, 2, 6, 6};
            Due.is("orders up to 400 of " + k, due[k], valid);
        }
        EveryMeasure x = Due.with(4, new int[][] {{5, 5, 5, 5}}, "");
        int valid = 0;
        for (int a = 0; a < 5; a++) for (int b = 0; b < 5; b++) for (int c = 0; c < 3; c++) if (x.first(1000 * a + 100 * b + 10 * c + 3) == 1) valid++;
        Due.is("orders of 0, 1, 2 and 3 at the end", 6, valid);
    }

    // ---- 33

    @Says(promise = 33, words = "MANY by N, as bits;")
    static void p33_asBits() {
        EveryMeasure x = Due.with(2, THREE, "a least 1 60; b most 1 60;");
        // 2 to 3: 0 over 1 by 40, over 2 by 40; 1 over 2 by 60, 2 over 1 by 40.
        Due.is("1 alone", 2, x.many(60));
        Due.is("41 likewise", 2, x.many(41));
        Due.is("by 40 each outdoes each", 7, x.many(40));
        Due.is("by 61 none", 7, x.many(61));
        for (int t = 0; t < 8; t++) x.thing(t, 9, 9, 9, 9);
        Due.is("all", 255, x.many(100));
        Due.read(x, "must 0 10;");
        Due.is("none is in", 0, x.many(50));
        Due.is("none is told", 0, new EveryMeasure().many(50));
    }

    @Says(promise = 33, words = "NONE: another N")
    static void p33_anotherN() {
        for (int n : new int[] {0, 101, -1, 102, Integer.MAX_VALUE, Integer.MIN_VALUE}) Kept.isNone("many(" + n + ")", x -> x.many(n));
        EveryMeasure x = Due.with(1, new int[][] {{5}, {4}}, "");
        Due.is("1", 1, x.many(1));
        Due.is("100", 1, x.many(100));
    }

    @Says(promise = 33, words = "nothing FITS.")
    static void p33_nothingFits() {
        Kept.isNoneIfNothingFits("many(50)", 2, x -> x.many(50));
        Kept.isNone(() -> Due.with(2, new int[][] {}, NOTHING), "without things", x -> x.many(50));
    }

    // ---- 34

    @Says(promise = 34, words = "What 0: MEASURES, 1: THINGS, 2: those IN, 3: SAYINGS, 4: those that count, 5: signs on the TAPE, 6: CORNERS, 7: THINGS in the ROW.")
    static void p34_counts() {
        EveryMeasure x = new EveryMeasure();
        int[] least = {3, 0, 0, 0, 0, 0, 3, 0};
        for (int what = 0; what < 8; what++) Due.is("at first count(" + what + ")", least[what], x.count(what));
        x = Kept.rich();
        int[] some = {3, 5, 4, 6, 5, 20};
        for (int what = 0; what < 6; what++) Due.is("count(" + what + ")", some[what], x.count(what));
        Due.is("count(7)", 2, x.count(7));
        x = Due.with(4, new int[][] {{1}, {1}, {1}, {1}, {1}, {1}, {1}, {1}}, "h most 0 50; h most 1 50; h most 2 50; h most 3 50;" + "a least 0 0;".repeat(8));
        for (int t = 0; t < 8; t++) x.row(t);
        Due.feed(x, "?".repeat(1001));
        int[] most = {4, 8, 8, 12, 12, 1000, 6, 8};
        for (int what = 0; what < 8; what++) Due.is("at the most count(" + what + ")", most[what], x.count(what));
        x.voices(1);
        Due.is("those that count", 8, x.count(4));
        Due.is("corners by these alone", 4, x.count(6));
        x.voices(0);
        Due.is("none counts", 0, x.count(4));
        x = Kept.nothingFits();
        Due.is("no corner", 0, x.count(6));
    }

    @Says(promise = 34, words = "NONE for another what.")
    static void p34_anotherWhat() {
        for (int what : new int[] {-1, 8, 9, Integer.MAX_VALUE, Integer.MIN_VALUE}) Kept.isNone("count(" + what + ")", x -> x.count(what));
    }
}
