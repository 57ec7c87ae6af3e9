/** The boundaries told in promises 1 to 11: what is told, and what is read off it at once. */
final class PromisesOfTelling {
    private static final int NONE = EveryMeasure.NONE;
    private static final int[] FAR = {Integer.MAX_VALUE, Integer.MIN_VALUE};

    private PromisesOfTelling() { }

    // ---- 1

    @Says(promise = 1, words = "3 MEASURES")
    static void p01_3Measures() {
        EveryMeasure x = new EveryMeasure();
        Due.is("count(0)", 3, x.count(0));
        Due.is("corners", 3, x.count(6));
        Due.is("less 3; is beyond", 4 + 16 * 5, Due.read(x, "less 3;"));
        Due.is("less 2; is not", 0, Due.read(x, "less 2;"));
    }

    @Says(promise = 1, words = "no THING")
    static void p01_noThing() {
        EveryMeasure x = new EveryMeasure();
        Due.is("count(1)", 0, x.count(1));
        Due.is("count(2)", 0, x.count(2));
        for (int t = 0; t < 8; t++) Due.is("standing(" + t + ")", NONE, x.standing(t));
        Due.is("best(0)", 0, x.best(0));
        Due.is("worst()", 0, x.worst());
        Due.is("none in the row", 0, x.count(7));
    }

    @Says(promise = 1, words = "an empty CHOICE")
    static void p01_emptyChoice() {
        EveryMeasure x = new EveryMeasure();
        Due.is("sayings", 0, x.count(3));
        Due.is("signs on the tape", 0, x.count(5));
        x.thing(0, 0, 100, 50, 0);
        int[] due = {0, 100, 50};
        for (int m = 0; m < 3; m++) Due.is("no less, no cap by " + m, due[m], x.value(0, m));
        Due.is("no must", 1, x.standing(0));
        Due.is("holds without saying 0", NONE, x.holds(0, 0, 0));
    }

    @Says(promise = 1, words = "all VOICES.")
    static void p01_allVoices() {
        EveryMeasure x = new EveryMeasure();
        StringBuilder all = new StringBuilder();
        for (char p = 'a'; p <= 'h'; p++) all.append(p).append(" more 0 1;");
        Due.is("choice()", 0, Due.read(x, all.toString()));
        Due.is("all count", 8, x.count(4));
    }

    // ---- 2

    @Says(promise = 2, words = "How many MEASURES there are;")
    static void p02_howManyThereAre() {
        for (int k = 1; k <= 4; k++) {
            EveryMeasure x = new EveryMeasure();
            Due.is("measures(" + k + ")", true, x.measures(k));
            Due.is("count(0)", k, x.count(0));
            Due.is("count(6)", k, x.count(6));
            Due.is("the last weight", k, x.share(NONE, 1));
        }
    }

    @Says(promise = 2, words = "all THINGS, the CHOICE, the ROW are gone, VOICES all: true;")
    static void p02_allIsGone() {
        for (int k = 1; k <= 4; k++) {
            EveryMeasure x = Kept.rich("b more 0 1;");
            Due.is("measures(" + k + ")", true, x.measures(k));
            Due.is("things", 0, x.count(1));
            Due.is("sayings", 0, x.count(3));
            Due.is("the row", 0, x.count(7));
            Due.is("row(2) is not there", true, x.row(2));
            Due.is("the tape is not told of: it stays", 11, x.count(5));
            x.thing(0, 90, 5, 5, 5);
            Due.is("cap gone", 90, x.value(0, 0));
            if (k > 1) Due.is("must gone", 1, x.standing(0));
            if (k > 2) Due.is("less gone", 5, x.value(0, 2));
            Due.is("choice()", k > 1 ? 0 : 4 + 16 * 9, x.choice());
            Due.is("choice()", 0, Due.read(x, "e least 0 0; a least 0 0;"));
            Due.is("e counts again", 2, x.count(4));
        }
    }

    @Says(promise = 2, words = "false: another number.")
    static void p02_anotherNumber() {
        for (int k : new int[] {0, 5, -1, -3, 6, 8, 256, FAR[0], FAR[1]}) Kept.isFalse("measures(" + k + ")", x -> x.measures(k));
    }

    // ---- 3

    @Says(promise = 3, words = {"A THING is told", ": true;"})
    static void p03_told() {
        EveryMeasure x = new EveryMeasure();
        for (int t = 0; t < 8; t++) {
            Due.is("thing(" + t + ")", true, x.thing(t, t, 10 + t, 100 - t, 0));
            Due.is("count(1)", t + 1, x.count(1));
        }
        for (int t = 0; t < 8; t++) Due.is("value", 10 + t, x.value(t, 1));
        Due.is("told again", true, x.thing(3, 1, 2, 3, 4));
        Due.is("its new figure", 2, x.value(3, 1));
        Due.is("the others stay", 14, x.value(4, 1));
        Due.is("count(1)", 8, x.count(1));
    }

    @Says(promise = 3, words = "(FIGURES of MEASURES that there are not are not asked)")
    static void p03_otherFiguresAreNotAsked() {
        for (int k = 1; k <= 4; k++) {
            for (int m = 1; m < 4; m++) {
                int measures = k;
                int[] f = {7, 7, 7, 7};
                for (int figure : new int[] {-1, 101, FAR[0], FAR[1]}) {
                    f[m] = figure;
                    String call = "figure " + figure + " by " + m + " of " + k;
                    if (m < k) {
                        Kept.isFalse(() -> Due.with(measures, new int[][] {{9, 9, 9, 9}}, ""), call, x -> x.thing(0, f[0], f[1], f[2], f[3]));
                    } else {
                        EveryMeasure x = Due.with(measures, new int[][] {{9, 9, 9, 9}}, "");
                        Due.is(call, true, x.thing(0, f[0], f[1], f[2], f[3]));
                        Due.is(call, 7, x.value(0, k - 1));
                        Due.is("it is not asked later", 7, x.good(0, 1, 1, 1, 1, 0));
                    }
                }
            }
        }
    }

    @Says(promise = 3, words = "false: others.")
    static void p03_others() {
        for (int t : new int[] {-1, 8, -8, 9, 32, FAR[0], FAR[1]}) Kept.isFalse("thing(" + t + ", ..)", x -> x.thing(t, 1, 1, 1, 1));
        for (int figure : new int[] {-1, 101, FAR[0], FAR[1]}) {
            Kept.isFalse("a " + figure, x -> x.thing(0, figure, 1, 1, 1));
            Kept.isFalse("b " + figure, x -> x.thing(6, 1, figure, 1, 1));
            Kept.isFalse("c " + figure, x -> x.thing(5, 1, 1, figure, 1));
        }
    }

    // ---- 4

    @Says(promise = 4, words = "A THING is told no more: true;")
    static void p04_toldNoMore() {
        EveryMeasure x = Kept.rich();
        Due.is("drop(4)", true, x.drop(4));
        Due.is("standing(4)", NONE, x.standing(4));
        Due.none("value(4, 0)", () -> x.value(4, 0));
        Due.is("count(1)", 4, x.count(1));
        Due.is("one that is out", true, x.drop(5));
        Due.is("count(1)", 3, x.count(1));
        Due.is("those in", 3, x.count(2));
        Due.is("drop(2)", true, x.drop(2));
        Due.is("the row is not told of: it stays", 2, x.count(7));
        Due.is("but one of it is not in", NONE, x.judged(0));
        Due.is("told again", true, x.thing(2, 50, 50, 45, 0));
        Due.is("in again", 1, x.standing(2));
        for (int t = 0; t < 8; t++) x.thing(t, 1, 1, 1, 1);
        for (int t = 0; t < 8; t++) Due.is("drop(" + t + ")", true, x.drop(t));
        Due.is("none is left", 0, x.count(1));
    }

    @Says(promise = 4, words = "false: it is not.")
    static void p04_itIsNot() {
        for (int t : new int[] {3, 6, 7, -1, 8, 32, 35, FAR[0], FAR[1]}) Kept.isFalse("drop(" + t + ")", x -> x.drop(t));
        EveryMeasure x = Kept.rich();
        Due.is("drop(0)", true, x.drop(0));
        Due.is("drop(0) again", false, x.drop(0));
    }

    // ---- 5

    @Says(promise = 5, words = "Up to 24 signs come behind the TAPE: the bytes of a, b, c, of each the highest first;")
    static void p05_upTo24SignsInOrder() {
        EveryMeasure x = new EveryMeasure();
        // cap 0 12 | ;less 1; | must 2 3
        Due.is("24 signs", 24, x.feed(0x6361702030203132L, 0x3b6c65737320313bL, 0x6d75737420322033L));
        Due.is("one more behind", 25, x.feed(0, 0, ';'));
        Due.is("choice()", 0, x.choice());
        x.thing(0, 50, 60, 3, 0);
        x.thing(1, 50, 60, 2, 0);
        Due.is("cap 0 12", 12, x.value(0, 0));
        Due.is("less 1", 40, x.value(0, 1));
        Due.is("must 2 3", 1, x.standing(0));
        Due.is("must 2 3", 0, x.standing(1));
        Due.is("none comes", 0, x.feed(0, 0, 0));
        Due.is("one comes", 1, x.feed(0, 'a', 0));
        Due.is("none comes", 1, x.feed(0, 0, 0));
        Due.is("23 come", 24, x.feed(0x0020202020202020L, 0x2020202020202020L, 0x2020202020202020L));
    }

    @Says(promise = 5, words = {"others than 10 and 32 .. 126", "are left out:"})
    static void p05_othersAreLeftOut() {
        EveryMeasure x = new EveryMeasure();
        Due.is("9, 11, 31, 127 and beyond", 0, x.feed(0x00090b1f7f80c0ffL, -1L, Long.MIN_VALUE));
        Due.is("10, 32, 126", 3, x.feed(0x0a090b1f207f7e80L, 0, 0));
        Due.is("~ stands at 2", 1 + 16 * 2, x.choice());
        // l 0 e 255 s 127 s 9 | 31 blank 128 0 .. ; in one
        Due.is("what is left out parts nothing", 7, x.feed(0x6c0065ff737f7309L, 0x1f2080300b3b0000L, 0));
        Due.is("choice()", 0, x.choice());
        x.thing(0, 1, 1, 1, 1);
        Due.is("less 0", 99, x.value(0, 0));
    }

    @Says(promise = 5, words = "and what is beyond 1,000, are left out:")
    static void p05_beyond1000IsLeftOut() {
        EveryMeasure x = new EveryMeasure();
        Due.feed(x, " ".repeat(990));
        // Of the second 'less' only 'le' is taken.
        Due.is("ten of 24", 1000, x.feed(0x6c65737320303b20L, 0x6c65737320313b20L, 0x2020202020202020L));
        Due.is("a text that breaks off at 1,000", 1 + 16 * 998, x.choice());
        Due.feed(x, " ".repeat(993));
        Due.is("seven of 24", 1000, x.feed(0x6c65737320303b3fL, 0x3f3f3f3f3f3f3f3fL, 0x3f3f3f3f3f3f3f3fL));
        Due.is("none of 24", 1000, x.feed(0x3f3f3f3f3f3f3f3fL, 0x3f3f3f3f3f3f3f3fL, 0x3f3f3f3f3f3f3f3fL));
        Due.is("choice()", 0, x.choice());
        Due.feed(x, " ".repeat(1000));
        Due.is("full", 1000, x.feed(0, 0, 0));
        Due.is("choice()", 0, x.choice());
        Due.is("there is room again", 1, x.feed(' ', 0, 0));
        Kept.Maker full = () -> {
            EveryMeasure y = Kept.rich("");
            Due.feed(y, " ".repeat(1000));
            return y;
        };
        EveryMeasure asked = full.make();
        Due.is("refused", 1000, asked.feed('?', '?', '?'));
        Kept.same("feed() on a full tape", asked, full.make());
    }

    @Says(promise = 5, words = "how many there are.")
    static void p05_howManyThereAre() {
        EveryMeasure x = new EveryMeasure();
        for (int i = 1; i <= 41; i++) Due.is("all on the tape", 24 * i, x.feed(0x2020202020202020L, 0x2020202020202020L, 0x2020202020202020L));
        Due.is("999", 999, x.feed(0x2020202020202020L, 0x20202020202020L, 0));
        Due.is("1,000", 1000, x.feed(0, 0, 0x2020L));
        Due.is("count(5)", 1000, x.count(5));
        x.choice();
        Due.is("begun anew", 2, x.feed(' ', 0, ' '));
    }

    // ---- 6

    @Says(promise = 6, words = "The TAPE is read as a CHOICE: 0")
    static void p06_read() {
        EveryMeasure x = new EveryMeasure();
        Due.is("an empty one", 0, x.choice());
        Due.is("one with all", 0, Due.read(x, "less 0; cap 1 9; must 2 9; a more 0 1; h better 0 1;"));
        Due.is("its sayings", 2, x.count(3));
        Due.is("an empty one takes its place", 0, x.choice());
        Due.is("no sayings", 0, x.count(3));
    }

    @Says(promise = 6, words = "or its FAULT (the one ahead stays then).")
    static void p06_theOneAheadStays() {
        String[] wrong = {"?", "a", "less 3;", "less 0; cap 0 1; must 0 100; b more 1 0; less 0;", "c twice 1 0;".repeat(12) + "c", "less 0; cap 1 101;",
            "a more 1 1;", "must 0 100; ;"};
        int[] due = {1, 17, 4 + 16 * 5, 3 + 16 * 46, 5 + 16 * 144, 4 + 16 * 14, 3 + 16 * 9, 1 + 16 * 12};
        for (int i = 0; i < wrong.length; i++) {
            EveryMeasure x = Kept.rich(wrong[i]);
            Due.is("choice() of '" + wrong[i] + "'", due[i], x.choice());
            Due.is("the tape is empty", 0, x.count(5));
            Kept.same("choice() of '" + wrong[i] + "'", x, Kept.rich(""));
        }
    }

    // ---- 7

    @Says(promise = 7, words = "VOICES as bits (a lowest; 0 to 255): true;")
    static void p07_voices0To255() {
        EveryMeasure x = new EveryMeasure();
        StringBuilder all = new StringBuilder();
        for (char p = 'a'; p <= 'h'; p++) all.append(p).append(" most 0 ").append(90 - (p - 'a')).append(';');
        Due.read(x, all.toString());
        for (int set : new int[] {0, 1, 2, 127, 128, 254, 255}) {
            Due.is("voices(" + set + ")", true, x.voices(set));
            Due.is("those that count", Integer.bitCount(set), x.count(4));
            // The highest voice says the least.
            int most = set == 0 ? 100 : 90 - (31 - Integer.numberOfLeadingZeros(set));
            Due.is("at its edge", 1, x.fits(most, 100 - most, 0, 0));
            if (set != 0) Due.is("beyond it", 0, x.fits(most + 1, 99 - most, 0, 0));
        }
    }

    @Says(promise = 7, words = "false: others.")
    static void p07_others() {
        for (int set : new int[] {-1, 256, -256, 257, FAR[0], FAR[1]}) Kept.isFalse("voices(" + set + ")", x -> x.voices(set));
    }

    // ---- 8

    @Says(promise = 8, words = "VALUE of a THING by a MEASURE.")
    static void p08_value() {
        EveryMeasure x = Kept.rich();
        int[][] due = {{75, 20, 60}, {30, 70, 50}, {50, 50, 55}, {}, {45, 45, 40}, {75, 5, 90}};
        for (int t = 0; t < due.length; t++) {
            for (int m = 0; m < due[t].length; m++) Due.is("value(" + t + ", " + m + ")", due[t][m], x.value(t, m));
        }
    }

    @Says(promise = 8, words = "NoSuchElementException: it is not told")
    static void p08_notTold() {
        for (int t : new int[] {3, 6, 7, -1, 8, 32, FAR[0], FAR[1]}) Kept.isThrown("value(" + t + ", 0)", x -> x.value(t, 0));
    }

    @Says(promise = 8, words = "no such MEASURE.")
    static void p08_noSuchMeasure() {
        for (int m : new int[] {-1, 3, 4, FAR[0], FAR[1]}) Kept.isThrown("value(0, " + m + ")", x -> x.value(0, m));
        for (int k = 1; k <= 4; k++) {
            int measures = k;
            Due.is("the last", 4, Due.with(k, new int[][] {{4, 4, 4, 4}}, "").value(0, k - 1));
            Kept.isThrown(() -> Due.with(measures, new int[][] {{4, 4, 4, 4}}, ""), "one behind the last of " + k, x -> x.value(0, measures));
        }
    }

    // ---- 9

    @Says(promise = 9, words = "1 IN, 0 OUT")
    static void p09_inAndOut() {
        EveryMeasure x = Due.with(2, new int[][] {{10, 90}, {9, 90}, {10, 91}, {0, 0}, {100, 100}}, "must 0 10; less 1; must 1 10;");
        int[] due = {1, 0, 0, 0, 0};
        for (int t = 0; t < due.length; t++) Due.is("standing(" + t + ")", due[t], x.standing(t));
        Due.read(x, "");
        for (int t = 0; t < due.length; t++) Due.is("without must: standing(" + t + ")", 1, x.standing(t));
    }

    @Says(promise = 9, words = "NONE: not told.")
    static void p09_notTold() {
        for (int t : new int[] {3, 6, 7, -1, 8, 32, FAR[0], FAR[1]}) Kept.isNone("standing(" + t + ")", x -> x.standing(t));
    }

    // ---- 10

    @Says(promise = 10, words = "GOOD by WEIGHTS (0 to 999 each;")
    static void p10_weights0To999() {
        EveryMeasure x = Due.with(4, new int[][] {{100, 99, 98, 97}}, "");
        int[] figures = {100, 99, 98, 97};
        // 294 / 3, 295 / 3, 296 / 3, 297 / 3: the three others.
        int[] aboveWithout = {98, 295, 296, 99};
        for (int m = 0; m < 4; m++) {
            int[] w = new int[4];
            w[m] = 999;
            Due.is("999 by " + m, figures[m], x.good(0, w[0], w[1], w[2], w[3], 0));
            w = new int[] {1, 1, 1, 1};
            w[m] = 0;
            Due.is("0 by " + m, aboveWithout[m], x.good(0, w[0], w[1], w[2], w[3], 0));
        }
        // 999 and 998 have nothing in common.
        Due.is("198702 / 1997", 198702, x.good(0, 999, 998, 0, 0, 0));
        Due.is("198702 / 1997", 1997, x.good(0, 999, 998, 0, 0, 1));
    }

    @Says(promise = 10, words = "those of MEASURES that there are not are not asked)")
    static void p10_otherWeightsAreNotAsked() {
        for (int k = 1; k < 4; k++) {
            EveryMeasure x = Due.with(k, new int[][] {{30, 30, 30, 30}}, "");
            for (int w : new int[] {-1, 1000, 0, FAR[0], FAR[1]}) {
                Due.is("a weight " + w, 30, x.good(0, 3, k < 2 ? w : 3, k < 3 ? w : 3, w, 0));
                Due.is("a weight " + w, 1, x.good(0, 3, k < 2 ? w : 3, k < 3 ? w : 3, w, 1));
            }
        }
    }

    @Says(promise = 10, words = "as a fraction in lowest terms (0 as 0 / 1), what 0: above, 1: below;")
    static void p10_inLowestTerms() {
        EveryMeasure x = Due.with(3, new int[][] {{10, 20, 40}, {0, 0, 0}, {100, 100, 100}}, "must 0 5;");
        Due.is("70 / 3", 70, x.good(0, 999, 999, 999, 0, 0));
        Due.is("70 / 3", 3, x.good(0, 999, 999, 999, 0, 1));
        Due.is("15 / 1", 15, x.good(0, 500, 500, 0, 0, 0));
        Due.is("15 / 1", 1, x.good(0, 500, 500, 0, 0, 1));
        Due.is("50 / 3 of (1, 2)", 50, x.good(0, 1, 2, 0, 0, 0));
        Due.is("0 / 1", 0, x.good(1, 999, 998, 997, 0, 0));
        Due.is("0 / 1", 1, x.good(1, 999, 998, 997, 0, 1));
        Due.is("100 / 1", 100, x.good(2, 999, 998, 997, 0, 0));
        Due.is("100 / 1", 1, x.good(2, 999, 998, 997, 0, 1));
        Due.is("one that is out has its good, too", 0, x.standing(1));
    }

    @Says(promise = 10, words = "NONE: not told")
    static void p10_notTold() {
        for (int t : new int[] {3, 6, 7, -1, 8, FAR[0], FAR[1]}) Kept.isNone("good(" + t + ", ..)", x -> x.good(t, 1, 1, 1, 1, 0));
    }

    @Says(promise = 10, words = "other WEIGHTS")
    static void p10_otherWeights() {
        Kept.isNone("all 0", x -> x.good(0, 0, 0, 0, 0, 0));
        Kept.isNone("all 0 but one that is not asked", x -> x.good(0, 0, 0, 0, 9, 0));
        for (int w : new int[] {-1, 1000, FAR[0], FAR[1]}) {
            Kept.isNone("a " + w, x -> x.good(0, w, 1, 1, 1, 0));
            Kept.isNone("b " + w, x -> x.good(0, 1, w, 1, 1, 1));
            Kept.isNone("c " + w, x -> x.good(0, 1, 1, w, 1, 0));
            Kept.isNone(() -> Due.with(4, new int[][] {{1, 1, 1, 1}}, ""), "d " + w, x -> x.good(0, 1, 1, 1, w, 0));
        }
    }

    @Says(promise = 10, words = "what.")
    static void p10_anotherWhat() {
        for (int what : new int[] {-1, 2, FAR[0], FAR[1]}) Kept.isNone("what " + what, x -> x.good(0, 1, 1, 1, 1, what));
    }

    // ---- 11

    @Says(promise = 11, words = "Whether WEIGHTS (likewise) FIT: 1 or 0;")
    static void p11_fits() {
        EveryMeasure x = Due.with(4, new int[0][], "a more 0 1; b least 3 10;");
        Due.is("at both edges", 1, x.fits(4, 4, 1, 1));
        Due.is("beyond the one", 0, x.fits(4, 5, 0, 1));
        Due.is("beyond the other", 0, x.fits(4, 4, 2, 1));
        Due.is("999 each", 1, x.fits(999, 999, 999, 999));
        Due.is("0 but one", 1, x.fits(0, 0, 0, 1));
        x.measures(2);
        Due.is("others are not asked", 1, x.fits(0, 999, -1, 1000));
        Due.is("others are not asked", 1, x.fits(999, 0, FAR[0], FAR[1]));
        Due.read(x, "a most 0 10; b least 0 11;");
        Due.is("nothing fits", 0, x.fits(1, 9, 0, 0));
        Due.is("nothing fits", 0, x.fits(11, 89, 0, 0));
    }

    @Says(promise = 11, words = "NONE: other WEIGHTS.")
    static void p11_otherWeights() {
        Kept.isNone("all 0", x -> x.fits(0, 0, 0, 0));
        Kept.isNone("all 0 but one that is not asked", x -> x.fits(0, 0, 0, 9));
        for (int w : new int[] {-1, 1000, FAR[0], FAR[1]}) {
            Kept.isNone("a " + w, x -> x.fits(w, 1, 1, 1));
            Kept.isNone("b " + w, x -> x.fits(1, w, 1, 1));
            Kept.isNone("c " + w, x -> x.fits(1, 1, w, 1));
            Kept.isNone(() -> Due.with(4, new int[][] {{1, 1, 1, 1}}, ""), "d " + w, x -> x.fits(1, 1, 1, w));
            Kept.isNone(Kept::nothingFits, "where nothing fits, " + w, x -> x.fits(1, w, 1, 1));
        }
    }
}
