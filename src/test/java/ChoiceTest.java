/** Promise 6: texts, their faults and what they change. */
public final class ChoiceTest {
    private static EveryMeasure x = new EveryMeasure();

    private static void fault(String text, int kind, int place) {
        Due.is("choice() of '" + text + "'", kind + 16 * place, Due.read(x, text));
        Due.is("the tape is empty behind '" + text + "'", 0, x.count(5));
    }

    private static void fine(String text, int sayings) {
        Due.is("choice() of '" + text + "'", 0, Due.read(x, text));
        Due.is("sayings of '" + text + "'", sayings, x.count(3));
    }

    public static void main(String[] args) {
        forms();
        tokens();
        strangers();
        again();
        numbers();
        tooMany();
        whatStays();
        otherMeasures();
        Due.end();
    }

    private static void forms() {
        fine("", 0);
        fine(" \n \n", 0);
        fine("less 0; cap 0 0; must 0 100; less 1; cap 1 100; must 1 0; less 2 ; cap 2 7 ; must 2 7 ;", 0);
        fine("a more 0 1; b twice 1 0; c step 1 0 100 1; d least 2 0; e most 2 100; f better 0 7; g better 7 0; h more 2 1;", 8);
        fine("a most 0 50; less 0; a most 0 50; cap 0 1;", 2);
    }

    private static void tokens() {
        fine("a more0 1;a\nmore 0\n1 ;", 2);
        fine("  less 0;less 1;cap2 5;must2 5;", 0);
        fine("cap 0 007; b step 5 0 010 1;", 1);
        // A letter right behind a number begins a word, so no semicolon stands there.
        fault("less 0a more 0 1;", 1, 6);
        fault("a more 0 1b more 0 1;", 1, 10);
        fault("amore 0 1;", 1, 0);
    }

    private static void strangers() {
        fault(";", 1, 0);
        fault("0", 1, 0);
        fault("i more 0 1;", 1, 0);
        fault("ab more 0 1;", 1, 0);
        fault("more 0 1;", 1, 0);
        fault("A more 0 1;", 1, 0);
        fault("az more 0 1;", 1, 0);
        fault("a~ more 0 1;", 1, 1);
        fault("a", 1, 1);
        fault("a  \n", 1, 4);
        fault("a more", 1, 6);
        fault("a more 0 1 ", 1, 11);
        fault("a more 0 1 1;", 1, 11);
        fault("a more 0;", 1, 8);
        fault("a more ;", 1, 7);
        fault("a more a 1;", 1, 7);
        fault("a cap 0 1;", 1, 2);
        fault("a a more 0 1;", 1, 2);
        fault("a mores 0 1;", 1, 2);
        fault("a more 0,1;", 1, 8);
        fault("less;", 1, 4);
        fault("less 0 0;", 1, 7);
        fault("cap 0;", 1, 5);
        fault("must 0 1 2;", 1, 9);
        fault("cap 0 0001;", 1, 6);
        fault("less 0000;", 1, 5);
        fault("abcdefgh more 0 1;", 1, 0);
        fault("a betterbetter 0 1;", 1, 2);
        fault("less 0;;", 1, 7);
        fault("less 0; ~", 1, 8);
        fault("less -1;", 1, 5);
        fault("less 0; #less 9;", 1, 8);
        fault("\n\nless\n9\n;", 4, 7);
    }

    private static void again() {
        fault("less 1; less 01;", 3, 13);
        fault("cap 1 5; cap 1 6;", 3, 13);
        fault("cap 1 100; cap 1 101;", 3, 15);
        fault("must 2 0; must 2 0;", 3, 15);
        fault("less 0; cap 0 1; must 0 1; cap 1 1; cap 0 1;", 3, 40);
        fault("a more 1 1;", 3, 9);
        fault("a twice 2 002;", 3, 10);
        fault("a step 1 2 1 2;", 3, 13);
        fault("a better 7 7;", 3, 11);
        fine("a step 2 2 2 1; a least 1 1; a most 1 1;", 3);
    }

    private static void numbers() {
        fault("less 3;", 4, 5);
        fault("less 999;", 4, 5);
        fault("cap 3 1;", 4, 4);
        fault("cap 0 101;", 4, 6);
        fault("must 0 999;", 4, 7);
        fault("a more 3 1;", 4, 7);
        fault("a more 0 3;", 4, 9);
        fault("a more 3 3;", 4, 7);
        fault("a twice 0 4;", 4, 10);
        fault("a step 0 0 1 1;", 4, 7);
        fault("a step 101 0 1 1;", 4, 7);
        fault("a step 1 3 1 1;", 4, 9);
        fault("a step 1 0 0 1;", 4, 11);
        fault("a step 1 0 101 1;", 4, 11);
        fault("a step 1 0 1 3;", 4, 13);
        fault("a least 3 1;", 4, 8);
        fault("a least 0 101;", 4, 10);
        fault("a most 3 1;", 4, 7);
        fault("a most 0 101;", 4, 9);
        fault("a better 8 1;", 4, 9);
        fault("a better 1 8;", 4, 11);
        fine("a step 100 0 001 1;", 1);
    }

    private static void tooMany() {
        String twelve = "a more 0 1;".repeat(12);
        fine(twelve, 12);
        fine(twelve + "less 0; cap 0 5;", 12);
        fault(twelve + "h", 5, 132);
        fault(twelve + " less 0; b strange", 5, 141);
        fault(twelve + "i", 1, 132);
        fault("a more 0 0;" + twelve, 3, 9);
    }

    private static void whatStays() {
        x = Due.with(3, new int[][] {{10, 20, 30}}, "less 0; cap 1 15; must 2 31; b more 0 1;");
        fault("less 2; a more 1 0; a more 0 1; less", 1, 36);
        Due.is("sayings", 1, x.count(3));
        Due.is("value(0, 0)", 90, x.value(0, 0));
        Due.is("value(0, 1)", 15, x.value(0, 1));
        Due.is("value(0, 2)", 30, x.value(0, 2));
        Due.is("standing(0)", 0, x.standing(0));
        Due.is("fits(0, 1, 0)", 0, x.fits(0, 1, 0, 0));
        fault("?", 1, 0);
        Due.is("fits(0, 1, 0)", 0, x.fits(0, 1, 0, 0));
        fine("less 2;", 0);
        Due.is("value(0, 0)", 10, x.value(0, 0));
        Due.is("value(0, 1)", 20, x.value(0, 1));
        Due.is("value(0, 2)", 70, x.value(0, 2));
        Due.is("fits(0, 1, 0)", 1, x.fits(0, 1, 0, 0));
        fine("", 0);
        Due.is("an empty one is one, too", 30, x.value(0, 2));
    }

    private static void otherMeasures() {
        x.measures(4);
        fine("a more 0 3; less 3;", 1);
        fault("less 4;", 4, 5);
        fault("cap 4 1;", 4, 4);
        fault("must 4 1;", 4, 5);
        fault("a more 4 4;", 4, 7);
        Due.feed(x, "a more 0 1;");
        x.measures(1);
        Due.is("read by the measures of now", 4 + 16 * 9, x.choice());
        fine("less 0; a least 0 100; b better 3 4;", 2);
        fault("less 1;", 4, 5);
        fault("a step 1 0 1 0;", 3, 13);
    }
}
