/** The boundaries told in the parts 'What it is' and 'Terms', 1 and 2: numbers, signs, tokens, texts, values, what fits. */
final class TermsOfTexts {
    private static final int NONE = EveryMeasure.NONE;
    private static final int[][] NO_THINGS = {};
    private static final int[][] FOUR = {{80, 20, 40, 10}, {30, 70, 50, 60}, {50, 50, 45, 30}, {10, 90, 20, 70}, {45, 45, 44, 40}};
    /** Each form that a choice may hold, with three measures. */
    private static final String[][] FORMS = {
        {"less", "2", ";"}, {"cap", "0", "5", ";"}, {"must", "1", "6", ";"}, {"a", "more", "0", "1", ";"}, {"b", "twice", "1", "2", ";"},
        {"c", "step", "3", "0", "4", "1", ";"}, {"d", "least", "2", "7", ";"}, {"e", "most", "0", "93", ";"}, {"h", "better", "7", "0", ";"}};

    private TermsOfTexts() { }

    private static void fine(EveryMeasure x, String text) {
        Due.is("choice() of '" + text + "'", 0, Due.read(x, text));
    }

    /** The text has this fault, and nothing of it is taken. */
    private static void fault(int measures, String text, int kind, int place) {
        Kept.Maker maker = () -> Due.with(measures, new int[][] {{10, 20, 30, 40}, {40, 30, 20, 10}}, "less 0; a least 0 10; h most 0 90;");
        EveryMeasure x = maker.make();
        Due.is("choice() of '" + text + "'", kind + 16L * place, Due.read(x, text));
        Kept.same("choice() of '" + text + "'", x, maker.make());
    }

    private static void fault(String text, int kind, int place) {
        fault(3, text, kind, place);
    }

    @Says(promise = -1, words = "An object is used for at most 512 calls after it has been made; what later calls answer is free.")
    static void terms0_the512thCallStillAnswers() {
        EveryMeasure x = new EveryMeasure();
        int calls = 0;
        for (; calls < 500; calls += 5) {
            x.measures(2);
            x.thing(0, calls % 100, 1, 0, 0);
            x.thing(1, 50, 2, 0, 0);
            x.row(1);
            x.feed(';', 0, 0);
        }
        Due.is("501 feed", 101, x.feed(' ', 0, 0));
        Due.is("502 choice", 1, x.choice());
        Due.is("503 thing", true, x.thing(0, 49, 3, 0, 0));
        Due.is("504 better", 1, x.better(0, 1));
        Due.is("505 feed: less 0;", 7, x.feed(0x6c65737320303bL, 0, 0));
        Due.is("506 choice", 0, x.choice());
        Due.is("507 value", 51, x.value(0, 0));
        Due.is("508 better", 2, x.better(0, 1));
        Due.is("509 row", true, x.row(0));
        Due.is("510 judged", 0, x.judged(0));
        Due.is("511 count", 2, x.count(7));
        Due.is("512 best", 1, x.best(1));
    }

    @Says(promise = -2, words = "Nothing is promised beyond the answers and state changes described above")
    static void terms0_asksChangeNothing() {
        Kept.asksChangeNothing("rich", Kept::rich);
        Kept.asksChangeNothing("nothing fits", Kept::nothingFits);
        Kept.asksChangeNothing("new", EveryMeasure::new);
        Kept.asksChangeNothing("one voice against all others", () -> {
            EveryMeasure x = Due.with(2, FOUR, "a most 0 40; b least 0 50; c least 0 60; d more 1 0; e twice 0 1;");
            x.voices(1);
            return x;
        });
        Kept.asksChangeNothing("four measures", () -> Due.with(4, FOUR, "a more 0 1; b twice 2 3; c better 0 1; d most 1 30; e least 3 5;"));
    }

    @Says(promise = -2, words = "Nothing is promised beyond the answers and state changes described above")
    static void terms0_whatWasAheadLeavesNothing() {
        String wide = "a most 0 50; a most 1 50; b most 2 50; c most 3 50; d least 0 1; e least 1 1; h better 0 1;";
        String[] narrow = {"", "a more 0 1; b more 1 0;", "a most 0 40; b least 0 40; c more 1 2; d more 2 3;", "a twice 0 1; b twice 1 0; c most 2 0; d most 3 0;",
            "g step 3 0 2 1; h step 2 1 3 0;", "less 1; cap 0 30; must 2 20;"};
        for (String text : narrow) {
            EveryMeasure x = Due.with(4, FOUR, "less 0; cap 1 1; must 2 99; " + wide);
            x.voices(7);
            Due.is("many corners ahead", true, x.count(6) > 5);
            x.few();
            Due.is("a fault between", 1, Due.read(x, "?"));
            fine(x, text);
            x.voices(255);
            x.thing(6, 1, 2, 3, 4);
            x.drop(6);
            x.row(5);
            x.row(NONE);
            Kept.same("what was ahead of '" + text + "'", x, Due.with(4, FOUR, text));
        }
    }

    @Says(promise = 0, words = "`NONE = -1`: None.")
    static void terms0_constants() {
        Due.is("NONE", -1, EveryMeasure.NONE);
        Due.is("what is none", EveryMeasure.NONE, new EveryMeasure().standing(0));
    }

    @Says(promise = 0, words = "The constants:")
    static void terms0_noOtherConstant() {
        int found = 0;
        for (java.lang.reflect.Field f : EveryMeasure.class.getFields()) found++;
        Due.is("public fields", 1, found);
    }

    // ---- 1

    @Says(promise = 0, words = "MEASURES 0 to k - 1")
    static void terms1_measuresAre0ToKLess1() {
        for (int k = 1; k <= 4; k++) {
            int last = k - 1;
            EveryMeasure x = Due.with(k, new int[][] {{11, 22, 33, 44}, {1, 2, 3, 4}}, "");
            Due.is("value by 0", 11, x.value(0, 0));
            Due.is("value by the last", 11 * k, x.value(0, last));
            Due.is("need by the last", 10 * k, x.need(1, last, false));
            Due.is("edge by the last", k, x.edge(0, 1, last));
            Due.is("corner by the last", 1, x.corner(0, last));
            for (int m : new int[] {-1, k, 4, Integer.MAX_VALUE, Integer.MIN_VALUE}) {
                Due.none("value by " + m, () -> x.value(0, m));
                Due.is("need by " + m, NONE, x.need(1, m, false));
                Due.is("edge by " + m, NONE, x.edge(0, 1, m));
                Due.is("corner by " + m, NONE, x.corner(0, m));
            }
        }
    }

    @Says(promise = 0, words = "(k is 1 to 4, 3 at first)")
    static void terms1_kIs1To4And3AtFirst() {
        EveryMeasure x = new EveryMeasure();
        Due.is("at first", 3, x.count(0));
        for (int k = 1; k <= 4; k++) {
            Due.is("measures(" + k + ")", true, x.measures(k));
            Due.is("count(0)", k, x.count(0));
        }
        for (int k : new int[] {0, 5, -1, Integer.MAX_VALUE, Integer.MIN_VALUE}) Kept.isFalse("measures(" + k + ")", y -> y.measures(k));
    }

    @Says(promise = 0, words = "THINGS 0 to 7")
    static void terms1_thingsAre0To7() {
        EveryMeasure x = new EveryMeasure();
        Due.is("thing(0)", true, x.thing(0, 1, 2, 3, 4));
        Due.is("thing(7)", true, x.thing(7, 5, 6, 7, 8));
        Due.is("value of 0", 1, x.value(0, 0));
        Due.is("value of 7", 5, x.value(7, 0));
        Due.is("7 is best", 128, x.best(1));
        Due.is("drop(7)", true, x.drop(7));
        Due.is("drop(0)", true, x.drop(0));
        for (int t : new int[] {-1, 8, 32, Integer.MAX_VALUE, Integer.MIN_VALUE}) {
            Kept.isFalse("thing(" + t + ")", y -> y.thing(t, 1, 1, 1, 1));
            Kept.isFalse("drop(" + t + ")", y -> y.drop(t));
            Kept.isNone("standing(" + t + ")", y -> y.standing(t));
        }
    }

    @Says(promise = 0, words = "each told by a FIGURE (0 to 100) for each MEASURE.")
    static void terms1_figuresAre0To100() {
        for (int m = 0; m < 4; m++) {
            int[] f = {50, 50, 50, 50};
            EveryMeasure x = Due.with(4, NO_THINGS, "");
            for (int figure : new int[] {0, 100}) {
                f[m] = figure;
                Due.is("figure " + figure + " by " + m, true, x.thing(2, f[0], f[1], f[2], f[3]));
                Due.is("value", figure, x.value(2, m));
                Due.is("the others", 50, x.value(2, m == 0 ? 3 : m - 1));
            }
            for (int figure : new int[] {-1, 101, Integer.MAX_VALUE, Integer.MIN_VALUE}) {
                f[m] = figure;
                Kept.Maker maker = () -> Due.with(4, new int[][] {{1, 2, 3, 4}, {4, 3, 2, 1}, {9, 9, 9, 9}}, "");
                Kept.isFalse(maker, "figure " + figure + " by " + m, y -> y.thing(2, f[0], f[1], f[2], f[3]));
                Kept.isFalse(maker, "figure " + figure + " by " + m, y -> y.thing(3, f[0], f[1], f[2], f[3]));
            }
        }
    }

    // ---- 2: the tape and its tokens

    @Says(promise = 0, words = "==== 2. A CHOICE is a text.")
    static void terms2_aChoiceIsAText() {
        EveryMeasure x = new EveryMeasure();
        fine(x, "less 0;");
        x.thing(0, 1, 0, 0, 0);
        Due.is("the text is it", 99, x.value(0, 0));
        fine(x, "");
        Due.is("no text is one, too", 1, x.value(0, 0));
    }

    @Says(promise = 0, words = "The TAPE has at most 1,000 signs")
    static void terms2_tapeHas1000SignsAtMost() {
        EveryMeasure x = new EveryMeasure();
        Due.feed(x, " ".repeat(992) + "less 0;");
        Due.is("999", 999, x.count(5));
        Due.is("1,000", 1000, x.feed(' ', 0, 0));
        Due.is("1,001", 1000, x.feed('?', 0, 0));
        Due.is("1,002", 1000, x.feed(0, 0, '?'));
        Due.is("what was beyond is left out", 0, x.choice());
        x.thing(0, 1, 1, 1, 1);
        Due.is("what was ahead is not", 99, x.value(0, 0));
    }

    @Says(promise = 0, words = "signs, 10 and 32 .. 126")
    static void terms2_signsAre10And32To126() {
        for (int sign = 0; sign < 256; sign++) {
            boolean known = sign == 10 || sign >= 32 && sign <= 126;
            for (int place = 0; place < 24; place++) {
                long word = (long) sign << 56 - place % 8 * 8;
                EveryMeasure x = new EveryMeasure();
                Due.is("sign " + sign + " at " + place, known ? 1 : 0, x.feed(place < 8 ? word : 0, place / 8 == 1 ? word : 0, place >= 16 ? word : 0));
            }
        }
    }

    @Says(promise = 0, words = "what reads it takes it: it is empty then.")
    static void terms2_whatReadsTheTapeTakesIt() {
        EveryMeasure x = new EveryMeasure();
        Due.feed(x, "less 0;");
        Due.is("count(5)", 7, x.count(5));
        fine(x, "");
        Due.is("empty", 0, x.count(5));
        Due.is("with a fault", 1, Due.read(x, "?"));
        Due.is("empty", 0, x.count(5));
        Due.is("the next begins at 0", 1 + 16 * 2, Due.read(x, "a ?"));
        Due.is("an empty one is read", 0, x.choice());
    }

    @Says(promise = 0, words = "TOKENS, each as long as can be")
    static void terms2_tokensAreAsLongAsCanBe() {
        fault("less 10;", 4, 5);
        fault("lessless 0;", 1, 0);
        fault("lesss 0;", 1, 0);
        fault("a moremore 0 1;", 1, 2);
        fault("aless 0;", 1, 0);
        fault("a more 01;", 1, 9);
        EveryMeasure x = Due.with(3, new int[][] {{100, 100, 100}}, "cap 0 12;cap 1 100;cap 2 010;");
        Due.is("12 is one number", 12, x.value(0, 0));
        Due.is("100 is one number", 100, x.value(0, 1));
        Due.is("010 is one number", 10, x.value(0, 2));
    }

    @Says(promise = 0, words = "blanks (10, 32) between where one likes:")
    static void terms2_blanksWhereOneLikes() {
        String[] same = {"cap 0 12;less 1;h more 0 1;", "cap0 12;less1;h more0 1;", "\n cap\n\n0 \n12\n;\n \nless\n1;  h\nmore 0\n1 ; \n"};
        for (String text : same) {
            EveryMeasure x = Due.with(3, new int[][] {{50, 60, 70}}, text);
            Due.is("cap", 12, x.value(0, 0));
            Due.is("less", 40, x.value(0, 1));
            Due.is("sayings", 1, x.count(3));
        }
        fine(new EveryMeasure(), " ");
        fine(new EveryMeasure(), "\n");
        fault("le ss 0;", 1, 0);
        fault("cap 0 1 2;", 1, 8);
        fault("a more 0 1\n2;", 1, 11);
        fault("  ?", 1, 2);
    }

    @Says(promise = 0, words = "WORDS (letters a .. z, 8 at most)")
    static void terms2_wordsOf8LettersAtMost() {
        // Each letter goes on with a word (else it were a person's name with something behind).
        for (char letter = 'a'; letter <= 'z'; letter++) fault("a" + letter + " more 0 1;", 1, 0);
        for (char other : new char[] {'`', '{', 'A', 'Z', '@', '[', '_'}) fault("a" + other + " more 0 1;", 1, 1);
        for (String word : new String[] {"abcdefgh", "abcdefghi", "lesslessless"}) {
            fault(word, 1, 0);
            fault("a " + word + " 0 1;", 1, 2);
            fault("less " + word + ";", 1, 5);
        }
    }

    @Says(promise = 0, words = {"NUMBERS (1 to 3 digits", "; a letter may stand right behind)"})
    static void terms2_numbersOf1To3Digits() {
        EveryMeasure x = Due.with(4, new int[][] {{100, 100, 100, 100}}, "cap 0 9;cap 1 90;cap 2 099;cap 3 000;");
        int[] due = {9, 90, 99, 0};
        for (int m = 0; m < 4; m++) Due.is("value by " + m, due[m], x.value(0, m));
        fault("cap 0 0009;", 1, 6);
        fault("cap 0000 9;", 1, 4);
        fault("cap 0 1000;", 1, 6);
        fault("cap 0 999;", 4, 6);
        fault("cap 0 /9;", 1, 6);
        fault("cap 0 9:;", 1, 7);
    }

    @Says(promise = 0, words = "a letter may stand right behind)")
    static void terms2_aLetterRightBehindANumberIsAnotherToken() {
        fault("less 0a", 1, 6);
        fault("less 9a", 4, 5);
        fault("cap 0 5less 0;", 1, 7);
        fault("cap 0 123a", 4, 6);
        fault("cap 0 100a", 1, 9);
        fault("a more 0b 1;", 1, 8);
    }

    @Says(promise = 0, words = "the semicolon.")
    static void terms2_theSemicolon() {
        fine(new EveryMeasure(), "less 0;less 1 ;less 2\n;");
        fault("less 0:", 1, 6);
        fault("less 0;;", 1, 7);
        fault(";", 1, 0);
        fault("less 0 less 1;", 1, 7);
        fault("less 0; less 1", 1, 14);
    }

    @Says(promise = 0, words = "All else (a longer WORD or NUMBER, too, at its first sign) is none.")
    static void terms2_allElseIsNone() {
        for (char sign = 33; sign <= 126; sign++) {
            if (sign >= 'a' && sign <= 'z' || sign >= '0' && sign <= '9' || sign == ';') continue;
            String s = Character.toString(sign);
            EveryMeasure x = new EveryMeasure();
            Due.is("first " + s, 1, Due.read(x, s));
            Due.is("for a word " + s, 1 + 16 * 2, Due.read(x, "a " + s + " 0 1;"));
            Due.is("for a measure " + s, 1 + 16 * 5, Due.read(x, "less " + s + ";"));
            Due.is("for a number " + s, 1 + 16 * 6, Due.read(x, "cap 0 " + s + ";"));
            Due.is("for the semicolon " + s, 1 + 16 * 6, Due.read(x, "less 0" + s));
            Due.is("behind it all " + s, 1 + 16 * 7, Due.read(x, "less 0;" + s));
        }
        fault("  abcdefghi", 1, 2);
        fault("a better 1234 0;", 1, 9);
        fault("a better 0 0001;", 1, 11);
    }

    // ---- 2: the forms

    @Says(promise = 0, words = "CHOICE: any number of less M ; cap M N ; must M N ; and of SAYINGS:")
    static void terms2_anyNumberOfEach() {
        StringBuilder all = new StringBuilder();
        for (int m = 0; m < 4; m++) {
            all.append("h most ").append(m).append(" 90;less ").append(m).append(";a least ").append(m).append(" 0;");
            all.append("cap ").append(m).append(" 30;b better ").append(m).append(" 7;must ").append(m).append(" 20;");
        }
        EveryMeasure x = Due.with(4, new int[][] {{79, 80, 75, 0}, {81, 0, 0, 0}}, all.toString());
        Due.is("all sayings", 12, x.count(3));
        int[] due = {21, 20, 25, 30};
        for (int m = 0; m < 4; m++) Due.is("value by " + m, due[m], x.value(0, m));
        Due.is("in", 1, x.standing(0));
        Due.is("out", 0, x.standing(1));
        fine(x, "");
        Due.is("none of them", 0, x.count(3));
        Due.is("none of them", 79, x.value(0, 0));
    }

    private static String text(String[] tokens, int upTo) {
        return String.join(" ", java.util.Arrays.copyOf(tokens, upTo));
    }

    @Says(promise = 0, words = "P more M M ; P twice M M ; P step N M N M ; P least M N ; P most M N ; P better T T ;")
    static void terms2_eachFormTokenForToken() {
        for (String[] form : FORMS) {
            fine(new EveryMeasure(), text(form, form.length));
            for (int i = 1; i < form.length; i++) {
                String begun = text(form, i);
                fault(begun, 1, begun.length());
                fault(begun + " ? ;", 1, begun.length() + 1);
                fault(begun + " xyz ;", 1, begun.length() + 1);
                if (!form[i].equals(";")) fault(begun + " ;", 1, begun.length() + 1);
                if (!Character.isDigit(form[i].charAt(0))) fault(begun + " 1 ;", 1, begun.length() + 1);
            }
        }
        fault("a less 0;", 1, 2);
        fault("a cap 0 1;", 1, 2);
        fault("a must 0 1;", 1, 2);
        fault("more 0 1;", 1, 0);
        for (String word : new String[] {"less", "cap", "must", "more", "twice", "step", "least", "most", "better"}) {
            boolean first = word.equals("less") || word.equals("cap") || word.equals("must");
            for (int i = 0; i < word.length(); i++) {
                String other = word.substring(0, i) + "x" + word.substring(i + 1);
                fault((first ? "" : "a ") + other + " 0 1 ;", 1, first ? 0 : 2);
                String shorter = word.substring(0, i) + word.substring(i + 1);
                fault((first ? "" : "a ") + shorter + " 0 1 ;", 1, first ? 0 : 2);
            }
        }
    }

    @Says(promise = 0, words = "M: a MEASURE (0 to k - 1).")
    static void terms2_mIs0ToKLess1() {
        String[] before = {"less ", "cap ", "must ", "a least ", "b most "};
        String[] behind = {";", " 5;", " 5;", " 5;", " 95;"};
        for (int k = 1; k <= 4; k++) {
            for (int f = 0; f < before.length; f++) {
                EveryMeasure x = Due.with(k, NO_THINGS, "");
                fine(x, before[f] + "0" + behind[f]);
                fine(x, before[f] + (k - 1) + behind[f]);
                fault(k, before[f] + k + behind[f], 4, before[f].length());
            }
            for (String word : new String[] {"a more ", "b twice ", "c step 2 "}) {
                String between = word.startsWith("c") ? " 3 " : " ";
                if (k > 1) {
                    EveryMeasure x = Due.with(k, NO_THINGS, "");
                    fine(x, word + "0" + between + (k - 1) + ";");
                    fine(x, word + (k - 1) + between + "0;");
                }
                fault(k, word + k + between + "0;", 4, word.length());
                fault(k, word + "0" + between + k + ";", 4, word.length() + 1 + between.length());
            }
        }
    }

    @Says(promise = 0, words = "T: 0 to 7.")
    static void terms2_tIs0To7() {
        for (int k = 1; k <= 4; k++) {
            EveryMeasure x = Due.with(k, NO_THINGS, "");
            fine(x, "a better 0 7;");
            fine(x, "a better 7 0;");
            fault(k, "a better 8 0;", 4, 9);
            fault(k, "a better 0 8;", 4, 11);
        }
    }

    @Says(promise = 0, words = "P: a PERSON, a to h.")
    static void terms2_personsAreAToH() {
        for (char p = 'a'; p <= 'z'; p++) {
            String text = p + " more 0 1;";
            if (p > 'h') {
                fault(text, 1, 0);
                continue;
            }
            EveryMeasure x = Due.with(3, NO_THINGS, text);
            x.voices(1 << p - 'a');
            Due.is(p + " speaks", 1, x.count(4));
            x.voices(255 - (1 << p - 'a'));
            Due.is(p + " is silent", 0, x.count(4));
        }
        fault("` more 0 1;", 1, 0);
        fault("A more 0 1;", 1, 0);
        fault("aa more 0 1;", 1, 0);
        fault("0 more 0 1;", 1, 0);
    }

    @Says(promise = 0, words = "N: 0 to 100, of step 1 to 100.")
    static void terms2_nIs0To100AndOfStep1To100() {
        for (String word : new String[] {"cap 1 ", "must 1 ", "a least 1 ", "a most 1 "}) {
            fine(new EveryMeasure(), word + "0;");
            fine(new EveryMeasure(), word + "100;");
            fault(word + "101;", 4, word.length());
            fault(word + "999;", 4, word.length());
        }
        fine(new EveryMeasure(), "a step 1 0 1 1;");
        fine(new EveryMeasure(), "a step 100 0 100 1;");
        fault("a step 0 0 1 1;", 4, 7);
        fault("a step 101 0 1 1;", 4, 7);
        fault("a step 1 0 0 1;", 4, 11);
        fault("a step 1 0 101 1;", 4, 11);
    }

    @Says(promise = 0, words = "less, cap, must once for each MEASURE.")
    static void terms2_lessCapMustOnceForEachMeasure() {
        EveryMeasure x = Due.with(4, NO_THINGS, "");
        for (int again = 0; again < 2; again++) {
            fine(x, "less 0; less 1; less 2; less 3; cap 3 1; cap 2 1; cap 1 1; cap 0 1; must 0 1; must 1 1; must 2 1; must 3 1;");
        }
        for (int m = 0; m < 4; m++) {
            fault(4, "less " + m + "; less " + m + ";", 3, 13);
            fault(4, "cap " + m + " 1; cap " + m + " 1;", 3, 13);
            fault(4, "must " + m + " 1; must " + m + " 1;", 3, 15);
        }
        fine(x, "a least 0 1; a least 0 1; a most 0 99; a most 0 99;");
    }

    @Says(promise = 0, words = "The two M (T) of a SAYING are not the same.")
    static void terms2_theTwoOfASayingAreNotTheSame() {
        for (int n = 0; n < 4; n++) {
            fault(4, "a more " + n + " " + n + ";", 3, 9);
            fault(4, "a twice " + n + " 0" + n + ";", 3, 10);
            fault(4, "a step 5 " + n + " 6 " + n + ";", 3, 13);
            fault(4, "a step " + (n + 1) + " " + n + " " + (n + 1) + " " + n + ";", 3, 13);
            fine(Due.with(4, NO_THINGS, ""), "a step 2 " + n + " 2 " + (n + 1) % 4 + ";");
        }
        for (int t = 0; t < 8; t++) {
            fault("a better " + t + " " + t + ";", 3, 11);
            fine(new EveryMeasure(), "a better " + t + " " + (t + 1) % 8 + ";");
        }
        fine(new EveryMeasure(), "a least 2 2; a most 2 2; cap 2 2; must 2 2;");
    }

    @Says(promise = 0, words = "12 SAYINGS at most.")
    static void terms2_12SayingsAtMost() {
        String twelve = "a more 0 1; b better 0 7; ".repeat(6);
        EveryMeasure x = Due.with(3, NO_THINGS, twelve);
        Due.is("12", 12, x.count(3));
        fine(x, twelve + "less 0; cap 0 1; must 0 0;");
        Due.is("12", 12, x.count(3));
        fault(twelve + "a more 0 1;", 5, twelve.length());
    }

    // ---- 2: the faults

    @Says(promise = 0, words = "FAULTS, kind + 16 * the place (from 0) of a token")
    static void terms2_faultsTellTheirPlace() {
        fault("?", 1, 0);
        fault(" ?", 1, 1);
        fault(" ".repeat(999) + "?", 1, 999);
        fault(" ".repeat(988) + "a better 7 7", 3, 999);
        fault(" ".repeat(994) + "less 3", 4, 999);
        fault(" ".repeat(993) + "less 3 ", 4, 998);
        fault("a more 0 1;".repeat(12) + " ".repeat(867) + "h", 5, 999);
        fault(" ".repeat(990) + "a abcdefgh", 1, 992);
    }

    @Says(promise = 0, words = "the end being one at the text's length:")
    static void terms2_theEndIsATokenAtTheTextsLength() {
        fault("a", 1, 1);
        fault("a ", 1, 2);
        fault("a\n\n", 1, 3);
        fault(" ".repeat(999) + "a", 1, 1000);
        fault("a" + " ".repeat(999), 1, 1000);
        fault("a" + " ".repeat(998), 1, 999);
        fine(new EveryMeasure(), " ".repeat(1000));
    }

    @Says(promise = 0, words = "of the first token from the left that is wrong the least:")
    static void terms2_theFirstTokenThatIsWrong() {
        fault("less 3; ?", 4, 5);
        fault("a more 1 1; less 3; ?", 3, 9);
        fault("a more 3 3;", 4, 7);
        fault("cap 0 101; cap 0 1;", 4, 6);
        fault("cap 0 1; cap 0 101;", 3, 13);
        fault("a step 0 3 0 3 ?", 4, 7);
        fault("a more 0 1;".repeat(12) + "b ?", 5, 132);
        fault("a more 0 1;".repeat(12) + "i more 3 3;", 1, 132);
        fault("a more 0 1;".repeat(12) + "less 3; a more 0 1;", 4, 137);
    }

    @Says(promise = 0, words = "1 it is none, or can't stand there;")
    static void terms2_fault1() {
        fault("a more 0 1!", 1, 10);
        fault("a more 0 1000;", 1, 9);
        fault("a more 0 b;", 1, 9);
        fault("a more less 1;", 1, 7);
        fault("less 0; 5", 1, 8);
        fault("less 0; a", 1, 9);
        fault("less less;", 1, 5);
    }

    @Says(promise = 0, words = "3 an M that has less, cap, must (of this word) already, the second M or T being the first one;")
    static void terms2_fault3() {
        fault("less 2; less 2", 3, 13);
        fault("cap 2 9; cap 2", 3, 13);
        fault("must 2 9; must 002", 3, 15);
        fault("a more 2 2", 3, 9);
        fault("a better 2 2", 3, 11);
        fault("a step 2 2 2 2", 3, 13);
        EveryMeasure x = Due.with(3, NO_THINGS, "less 2; cap 2 5; must 2 5; less 1; must 1 4; cap 1 4;");
        fine(x, "must 0 1; cap 0 1; less 0;");
    }

    @Says(promise = 0, words = "4 a NUMBER that is not as told;")
    static void terms2_fault4() {
        fault("less 003;", 4, 5);
        fault("less 3", 4, 5);
        fault("must 0 101", 4, 7);
        fault("a most 0 101", 4, 9);
        fault("a step 000 0 1 1;", 4, 7);
        fault("a better 008 8;", 4, 9);
        fine(new EveryMeasure(), "a better 007 006; a step 001 002 100 001; less 002;");
    }

    @Says(promise = 0, words = "5 one too many: the PERSON of a 13th SAYING.")
    static void terms2_fault5() {
        String twelve = "c least 0 1;".repeat(12);
        fault(twelve + "a", 5, 144);
        fault(twelve + "h more 0 1;", 5, 144);
        fault(twelve + "less 1; \n d", 5, 154);
        fault(twelve + "i", 1, 144);
        fault(twelve + "more", 1, 144);
        fine(new EveryMeasure(), twelve + "less 1;");
        fault("c least 0 1;".repeat(11) + "a more 0 1;b", 5, 143);
    }

    @Says(promise = 0, words = "Without a FAULT it is the CHOICE from then on (at first, and when k is told, an empty one).")
    static void terms2_theChoiceFromThenOn() {
        EveryMeasure x = new EveryMeasure();
        x.thing(0, 10, 20, 30, 40);
        Due.is("at first no saying", 0, x.count(3));
        Due.is("at first no less, no cap", 10, x.value(0, 0));
        Due.is("at first no must", 1, x.standing(0));
        Due.is("at first all fits", 1, x.fits(0, 0, 1, 0));
        fine(x, "less 0; cap 1 15; must 2 31; a more 0 2;");
        Due.is("less", 90, x.value(0, 0));
        Due.is("cap", 15, x.value(0, 1));
        Due.is("must", 0, x.standing(0));
        Due.is("more", 0, x.fits(0, 0, 1, 0));
        fine(x, "cap 2 29;");
        Due.is("no less any more", 10, x.value(0, 0));
        Due.is("no cap of 1 any more", 20, x.value(0, 1));
        Due.is("a cap of 2 now", 29, x.value(0, 2));
        Due.is("no must any more", 1, x.standing(0));
        Due.is("no saying any more", 1, x.fits(0, 0, 1, 0));
        fine(x, "less 0; cap 1 15; must 2 31; a more 0 2;");
        x.measures(3);
        x.thing(0, 10, 20, 30, 40);
        Due.is("when k is told no saying", 0, x.count(3));
        Due.is("when k is told no less", 10, x.value(0, 0));
        Due.is("when k is told no cap", 20, x.value(0, 1));
        Due.is("when k is told no must", 1, x.standing(0));
        Due.is("when k is told all fits", 1, x.fits(0, 0, 1, 0));
    }

    // ---- 2: values and weights

    @Says(promise = 0, words = "VALUE of a THING by a MEASURE: its FIGURE, of less 100 less it; not above N of cap.")
    static void terms2_value() {
        EveryMeasure x = Due.with(4, new int[][] {{0, 0, 0, 0}, {100, 100, 100, 100}, {39, 39, 39, 61}, {40, 40, 40, 60}, {41, 41, 41, 59}},
            "less 1; cap 2 40; less 3; cap 3 40;");
        int[][] due = {{0, 100, 0, 40}, {100, 0, 40, 0}, {39, 61, 39, 39}, {40, 60, 40, 40}, {41, 59, 40, 40}};
        for (int t = 0; t < due.length; t++) {
            for (int m = 0; m < 4; m++) Due.is("value of " + t + " by " + m, due[t][m], x.value(t, m));
        }
        fine(x, "cap 0 0; cap 1 100; cap 2 99; cap 3 1;");
        int[][] others = {{0, 0, 0, 0}, {0, 100, 99, 1}};
        for (int t = 0; t < others.length; t++) {
            for (int m = 0; m < 4; m++) Due.is("value of " + t + " by " + m, others[t][m], x.value(t, m));
        }
    }

    @Says(promise = 0, words = "A THING is OUT if a VALUE is below N of must (VALUE ahead of cap); others that are told are IN.")
    static void terms2_out() {
        EveryMeasure x = Due.with(2, new int[][] {{50, 40}, {49, 40}, {50, 41}, {100, 0}, {0, 100}, {49, 41}}, "must 0 50; less 1; must 1 60;");
        int[] due = {1, 0, 0, 1, 0, 0, NONE, NONE};
        for (int t = 0; t < 8; t++) Due.is("standing(" + t + ")", due[t], x.standing(t));
        fine(x, "must 0 50; less 1; must 1 60; cap 0 0; cap 1 59;");
        for (int t = 0; t < 8; t++) Due.is("ahead of cap: standing(" + t + ")", due[t], x.standing(t));
        Due.is("the value is capped", 0, x.value(0, 0));
        fine(x, "must 0 0; must 1 0;");
        for (int t = 0; t < 6; t++) Due.is("must 0: standing(" + t + ")", 1, x.standing(t));
        fine(x, "must 0 100;");
        for (int t = 0; t < 6; t++) Due.is("must 100: standing(" + t + ")", t == 3 ? 1 : 0, x.standing(t));
        Due.is("count of those in", 1, x.count(2));
    }

    @Says(promise = 0, words = "WEIGHTS are k numbers, 0 or more, not all 0; only how they stand to one another counts.")
    static void terms2_weights() {
        for (int k = 1; k <= 4; k++) {
            EveryMeasure x = Due.with(k, new int[][] {{40, 40, 40, 40}}, "");
            Due.is("all 0 but those not asked", k < 4 ? NONE : 1, x.fits(0, 0, 0, 9));
            Due.is("all 0", NONE, x.fits(0, 0, 0, 0));
            Due.is("the first alone", 1, x.fits(9, 0, 0, 0));
            Due.is("below 0", NONE, x.fits(-1, 9, 9, 9));
            Due.is("the last below 0", NONE, x.fits(k == 1 ? -1 : 9, k == 2 ? -1 : 9, k == 3 ? -1 : 9, k == 4 ? -1 : 9));
        }
        EveryMeasure x = Due.with(3, new int[][] {{10, 20, 60}}, "a step 3 0 2 1; b least 2 30;");
        for (int times : new int[] {1, 7, 142}) {
            Due.is("fits", 1, x.fits(2 * times, 3 * times, 5 * times, 0));
            Due.is("fits not", 0, x.fits(2 * times, 4 * times, 5 * times, 0));
            Due.is("good", 38, x.good(0, 2 * times, 3 * times, 5 * times, 0, 0));
        }
    }

    @Says(promise = 0, words = "GOOD of a THING is the sum of WEIGHT * VALUE over the sum of the WEIGHTS.")
    static void terms2_good() {
        EveryMeasure x = Due.with(4, new int[][] {{100, 100, 100, 100}, {0, 0, 0, 0}, {10, 20, 30, 60}}, "less 3; cap 1 15;");
        // 0 is (100, 15, 100, 0), 1 is (0, 0, 0, 100), 2 is (10, 15, 30, 40).
        Due.is("215 / 4 above", 215, x.good(0, 999, 999, 999, 999, 0));
        Due.is("215 / 4 below", 4, x.good(0, 999, 999, 999, 999, 1));
        Due.is("100 / 998", 50, x.good(1, 997, 0, 0, 1, 0));
        Due.is("100 / 998", 499, x.good(1, 997, 0, 0, 1, 1));
        Due.is("10 + 30 + 90 + 160 over 10", 29, x.good(2, 1, 2, 3, 4, 0));
        Due.is("one weight", 15, x.good(0, 0, 7, 0, 0, 0));
    }

    @Says(promise = 0, words = {"WEIGHTS FIT a SAYING: more: the first M's WEIGHT is not below the second one's;"})
    static void terms2_more() {
        EveryMeasure x = Due.with(3, NO_THINGS, "a more 1 0;");
        Due.is("as great", 1, x.fits(5, 5, 0, 0));
        Due.is("one below", 0, x.fits(6, 5, 0, 0));
        Due.is("one above", 1, x.fits(5, 6, 0, 0));
        Due.is("both 0", 1, x.fits(0, 0, 1, 0));
        Due.is("999", 1, x.fits(999, 999, 0, 0));
        Due.is("998", 0, x.fits(999, 998, 0, 0));
    }

    @Says(promise = 0, words = "twice: not below twice the second one's;")
    static void terms2_twice() {
        EveryMeasure x = Due.with(3, NO_THINGS, "a twice 2 0;");
        Due.is("twice", 1, x.fits(5, 0, 10, 0));
        Due.is("one below", 0, x.fits(5, 0, 9, 0));
        Due.is("one above", 1, x.fits(5, 0, 11, 0));
        Due.is("both 0", 1, x.fits(0, 1, 0, 0));
        Due.is("998", 1, x.fits(499, 0, 998, 0));
        Due.is("999", 0, x.fits(500, 0, 999, 0));
    }

    @Says(promise = 0, words = "step: N * WEIGHT of the first is not below N * WEIGHT of the second;")
    static void terms2_step() {
        EveryMeasure x = Due.with(2, NO_THINGS, "a step 3 0 2 1;");
        Due.is("2 to 3", 1, x.fits(666, 999, 0, 0));
        Due.is("one below", 0, x.fits(665, 999, 0, 0));
        Due.is("one above", 1, x.fits(667, 999, 0, 0));
        fine(x, "a step 100 1 1 0;");
        Due.is("100 to 1", 1, x.fits(900, 9, 0, 0));
        Due.is("more than 100 to 1", 0, x.fits(901, 9, 0, 0));
        fine(x, "a step 1 1 100 0;");
        Due.is("1 to 100", 1, x.fits(9, 900, 0, 0));
        Due.is("more than 1 to 100", 0, x.fits(9, 899, 0, 0));
    }

    @Says(promise = 0, words = "least, most: 100 * WEIGHT is not below (above) N * the sum of all;")
    static void terms2_leastAndMost() {
        EveryMeasure x = Due.with(3, NO_THINGS, "a least 0 25;");
        Due.is("25 of 100", 1, x.fits(250, 375, 375, 0));
        Due.is("less", 0, x.fits(249, 375, 375, 0));
        Due.is("more", 1, x.fits(251, 375, 375, 0));
        fine(x, "a most 0 25;");
        Due.is("25 of 100", 1, x.fits(250, 375, 375, 0));
        Due.is("less", 1, x.fits(249, 375, 375, 0));
        Due.is("more", 0, x.fits(251, 375, 375, 0));
        fine(x, "a least 0 0; a most 0 100;");
        Due.is("none at all", 1, x.fits(0, 1, 0, 0));
        Due.is("all", 1, x.fits(1, 0, 0, 0));
        fine(x, "a least 0 100;");
        Due.is("all", 1, x.fits(1, 0, 0, 0));
        Due.is("nearly all", 0, x.fits(999, 0, 1, 0));
        fine(x, "a most 0 0;");
        Due.is("none at all", 1, x.fits(0, 1, 0, 0));
        Due.is("nearly none", 0, x.fits(1, 999, 999, 0));
        // The sum is that of the measures that there are.
        x.measures(1);
        fine(x, "a least 0 100;");
        Due.is("all", 1, x.fits(3, 9, 9, 9));
    }

    @Says(promise = 0, words = "better: the first T (told, IN or not) is GOOD not below the second one;")
    static void terms2_better() {
        EveryMeasure x = Due.with(2, new int[][] {{60, 40}, {40, 60}}, "a better 0 1;");
        Due.is("as good", 1, x.fits(5, 5, 0, 0));
        Due.is("below", 0, x.fits(5, 6, 0, 0));
        Due.is("above", 1, x.fits(6, 5, 0, 0));
        fine(x, "a better 0 1; must 0 61;");
        Due.is("both are out", 0, x.standing(0) + x.standing(1));
        Due.is("out: as good", 1, x.fits(5, 5, 0, 0));
        Due.is("out: below", 0, x.fits(5, 6, 0, 0));
        fine(x, "a better 0 1; must 0 41;");
        Due.is("the second is out: below", 0, x.fits(5, 6, 0, 0));
        fine(x, "a better 0 1; cap 0 50;");
        Due.is("by values, as good", 1, x.fits(2, 1, 0, 0));
        Due.is("by values, below", 0, x.fits(19, 10, 0, 0));
    }

    @Says(promise = 0, words = "a T that is not told: all FIT it.")
    static void terms2_betterOfOneThatIsNotTold() {
        EveryMeasure x = Due.with(2, new int[][] {{60, 40}}, "a better 0 7; a better 6 0; a better 5 4;");
        Due.is("all fit", 2, x.count(6));
        Due.is("all fit", 1, x.fits(0, 1, 0, 0));
        x.thing(7, 40, 60, 0, 0);
        Due.is("told: below", 0, x.fits(5, 6, 0, 0));
        Due.is("told: as good", 1, x.fits(5, 5, 0, 0));
        x.drop(7);
        Due.is("told no more", 1, x.fits(5, 6, 0, 0));
        x.thing(6, 0, 0, 0, 0);
        Due.is("told: nothing fits", 0, x.count(6));
        x.drop(0);
        Due.is("the other is told no more", 2, x.count(6));
        x.thing(0, 0, 0, 0, 0);
        Due.is("as good by all", 2, x.count(6));
    }

    @Says(promise = 0, words = "VOICES: the PERSONS whose SAYINGS count (all at first).")
    static void terms2_voices() {
        EveryMeasure x = Due.with(2, NO_THINGS, "a more 0 1; b more 0 1; h more 0 1; a more 0 1;");
        Due.is("all at first", 4, x.count(4));
        int[] counts = {0, 2, 1, 3};
        for (int set = 0; set < 4; set++) {
            x.voices(set);
            Due.is("voices " + set, counts[set], x.count(4));
            Due.is("fits", set == 0 ? 1 : 0, x.fits(0, 1, 0, 0));
        }
        x.voices(128);
        Due.is("h", 1, x.count(4));
        x.voices(124);
        Due.is("who says nothing", 0, x.count(4));
        Due.is("sayings all the same", 4, x.count(3));
    }

    @Says(promise = 0, words = "WEIGHTS FIT if they FIT all SAYINGS that count.")
    static void terms2_weightsFitAllSayingsThatCount() {
        EveryMeasure x = Due.with(3, NO_THINGS, "a more 0 1; b more 1 2; c most 0 50;");
        Due.is("all", 1, x.fits(5, 4, 1, 0));
        Due.is("not the first", 0, x.fits(4, 5, 1, 0));
        Due.is("not the second", 0, x.fits(5, 1, 4, 0));
        Due.is("not the third", 0, x.fits(6, 4, 1, 0));
        x.voices(6);
        Due.is("the first does not count", 1, x.fits(4, 5, 1, 0));
        x.voices(5);
        Due.is("the second does not count", 1, x.fits(5, 1, 4, 0));
        x.voices(3);
        Due.is("the third does not count", 1, x.fits(6, 4, 1, 0));
        x.voices(0);
        Due.is("none counts", 1, x.fits(0, 0, 1, 0));
    }
}
