import java.util.NoSuchElementException;

/** What the project's tests share: answers that are due, and texts put on the tape. */
final class Due {
    private static int checked = 0;
    private static int wrong = 0;
    /** What is asked at the moment, told with each wrong answer. */
    private static String sentence = "";

    private Due() { }

    interface Call {
        long answer();
    }

    static void sentence(String asked) {
        sentence = asked + ": ";
    }

    static int checked() {
        return checked;
    }

    static void is(String call, long want, long got) {
        checked++;
        if (got != want) {
            wrong++;
            System.out.println(sentence + call + " answered " + got + ", due is " + want);
        }
    }

    static void is(String call, boolean want, boolean got) {
        is(call, want ? 1 : 0, got ? 1 : 0);
    }

    static void none(String call, Call made) {
        checked++;
        try {
            long got = made.answer();
            wrong++;
            System.out.println(sentence + call + " answered " + got + ", due is NoSuchElementException");
        } catch (NoSuchElementException due) {
            // as it should be
        }
    }

    static void feed(EveryMeasure x, String text) {
        for (int at = 0; at < text.length(); at += 24) {
            long[] words = new long[3];
            for (int i = 0; i < 24; i++) {
                int sign = at + i < text.length() ? text.charAt(at + i) : 0;
                words[i / 8] = words[i / 8] << 8 | sign;
            }
            x.feed(words[0], words[1], words[2]);
        }
    }

    /** The answer of choice() to a text. */
    static int read(EveryMeasure x, String text) {
        feed(x, text);
        return x.choice();
    }

    /** A new object with some measures, some things (their figures) and a choice without a fault. */
    static EveryMeasure with(int measures, int[][] figures, String text) {
        EveryMeasure x = new EveryMeasure();
        is("measures(" + measures + ")", true, x.measures(measures));
        for (int t = 0; t < figures.length; t++) {
            int[] f = java.util.Arrays.copyOf(figures[t], 4);
            is("thing " + t, true, x.thing(t, f[0], f[1], f[2], f[3]));
        }
        is("choice() of " + text, 0, read(x, text));
        return x;
    }

    static void end() {
        System.out.println(checked + " answers, " + wrong + " of them wrong");
        if (wrong > 0 || checked == 0) System.exit(1);
    }
}
