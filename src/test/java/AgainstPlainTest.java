import java.util.NoSuchElementException;
import java.util.Random;

/** Random runs of calls, each answered by EveryMeasure and by the plain telling of the document alike. */
public final class AgainstPlainTest {
    private static final String[] NAMES = {
        "measures", "thing", "drop", "feed", "choice", "voices", "value", "standing", "good", "fits", "corner", "small",
        "better", "gap", "best", "regret", "least", "beaten", "next", "few", "need", "share", "why", "holds", "edge",
        "agree", "yields", "row", "judged", "worst", "first", "many", "count"};

    /** With a third argument: how often each answer was given, to see that the runs go everywhere. */
    private static java.util.TreeMap<String, Integer> SEEN = null;

    private final Random random;
    private final EveryMeasure fast = new EveryMeasure();
    private final PlainMeasure plain = new PlainMeasure();
    private final StringBuilder told = new StringBuilder();
    private int k = 3;
    private int calls = 0;
    private boolean wrong = false;

    private AgainstPlainTest(long seed) {
        random = new Random(seed);
    }

    private interface Call {
        long answer();
    }

    private static String answered(Call call) {
        try {
            return Long.toString(call.answer());
        } catch (NoSuchElementException e) {
            return "throws";
        }
    }

    private void same(String call, Call first, Call second) {
        calls++;
        String got = answered(first);
        String want = answered(second);
        told.append(call).append(" = ").append(got).append('\n');
        if (SEEN != null) SEEN.merge(call.replaceAll("\\(.*?,?(\\d*)\\).*", "($1) = ") + got, 1, Integer::sum);
        if (!got.equals(want)) {
            wrong = true;
            told.append("   but plainly ").append(want).append('\n');
        }
    }

    private int upTo(int bound) {
        return random.nextInt(bound + 1);
    }

    private int part() {
        return random.nextInt(12) == 0 ? random.nextInt(7) - 3 : random.nextInt(2);
    }

    private int someThing() {
        return random.nextInt(30) == 0 ? random.nextInt(14) - 3 : random.nextInt(things);
    }

    private int someMeasure() {
        return random.nextInt(20) == 0 ? random.nextInt(8) - 2 : random.nextInt(k);
    }

    // ---- texts

    private void feed(String text) {
        for (int at = 0; at < text.length(); at += 24) {
            long[] words = new long[3];
            for (int i = 0; i < 24; i++) {
                int sign = at + i < text.length() ? text.charAt(at + i) : 0;
                words[i / 8] = words[i / 8] << 8 | sign;
            }
            long a = words[0];
            long b = words[1];
            long c = words[2];
            same("feed(" + a + ", " + b + ", " + c + ")", () -> fast.feed(a, b, c), () -> plain.feed(a, b, c));
        }
    }

    /** Sayings mostly fit these weights, so that many of them can stand together. */
    private final int[] hidden = new int[4];
    private final int[][] figures = new int[8][4];
    private int things = 0;

    private String measuresThatFit(int timesOfFirst, int timesOfSecond) {
        int[] both = {random.nextInt(k), random.nextInt(k)};
        if (both[0] == both[1] && random.nextInt(40) != 0) both[1] = (both[1] + 1) % k;
        boolean fits = timesOfFirst * hidden[both[0]] >= timesOfSecond * hidden[both[1]];
        boolean other = timesOfFirst * hidden[both[1]] >= timesOfSecond * hidden[both[0]];
        boolean turn = !fits && other && random.nextInt(25) != 0;
        return turn ? both[1] + " " + both[0] : both[0] + " " + both[1];
    }

    private String thingsThatFit() {
        String[] both = two(random.nextInt(10) == 0 ? 8 : things).split(" ");
        int lead = 0;
        for (int m = 0; m < k; m++) {
            lead += hidden[m] * (figures[Integer.parseInt(both[0])][m] - figures[Integer.parseInt(both[1])][m]);
        }
        return lead >= 0 || random.nextInt(25) == 0 ? both[0] + " " + both[1] : both[1] + " " + both[0];
    }

    private String bound(boolean least) {
        int m = random.nextInt(k);
        int sum = 0;
        for (int i = 0; i < k; i++) sum += hidden[i];
        int now = 100 * hidden[m] / sum;
        int bound = least ? now - random.nextInt(30) : now + 1 + random.nextInt(40);
        if (random.nextInt(20) == 0) bound = upTo(100);
        return m + " " + Math.max(0, Math.min(100, bound));
    }

    private String two(int bound) {
        int first = random.nextInt(bound);
        int second = random.nextInt(bound);
        if (first == second && random.nextInt(40) != 0) second = (second + 1) % bound;
        return first + " " + second;
    }

    private String saying(int persons) {
        String who = (char) ('a' + random.nextInt(persons)) + " ";
        switch (random.nextInt(8)) {
            case 0: return who + "more " + measuresThatFit(1, 1);
            case 1: return who + "twice " + measuresThatFit(1, 2);
            case 2: {
                int times = 1 + upTo(99);
                int otherTimes = 1 + upTo(99);
                String[] both = measuresThatFit(times, otherTimes).split(" ");
                return who + "step " + times + " " + both[0] + " " + otherTimes + " " + both[1];
            }
            case 3: return who + "least " + bound(true);
            case 4: return who + "most " + bound(false);
            default: return who + "better " + thingsThatFit();
        }
    }

    private String text(int sayings, int persons) {
        StringBuilder text = new StringBuilder();
        for (int m = 0; m < k; m++) {
            if (random.nextInt(9) == 0) text.append("less ").append(m).append(" ; ");
            if (random.nextInt(6) == 0) text.append("cap ").append(m).append(' ').append(upTo(100)).append(";");
            if (random.nextInt(8) == 0) text.append("must ").append(m).append(' ').append(upTo(40)).append(";\n");
        }
        for (int s = 0; s < sayings; s++) text.append(saying(persons)).append(random.nextBoolean() ? " ; " : ";");
        return text.toString();
    }

    private static final String SIGNS = " ;\n0123456789abchiz=-~A";

    private String spoilt(String text) {
        StringBuilder spoilt = new StringBuilder(text);
        for (int i = random.nextInt(3); i >= 0 && spoilt.length() > 0; i--) {
            int at = random.nextInt(spoilt.length());
            char sign = SIGNS.charAt(random.nextInt(SIGNS.length()));
            switch (random.nextInt(4)) {
                case 0 -> spoilt.setCharAt(at, sign);
                case 1 -> spoilt.insert(at, sign);
                case 2 -> spoilt.deleteCharAt(at);
                default -> spoilt.setLength(at);
            }
        }
        return spoilt.toString();
    }

    private void read(String text) {
        feed(text);
        same("choice() of " + text.replace('\n', '|'), fast::choice, plain::choice);
    }

    // ---- calls

    /** Things that are good by one measure at the cost of others make the questions hard. */
    private void makeFigures() {
        int range = new int[] {3, 10, 100}[random.nextInt(3)];
        int base = upTo(100 - range);
        boolean trades = random.nextInt(3) != 0;
        boolean peaks = random.nextInt(3) == 0;
        for (int t = 0; t < 8; t++) {
            int left = range * k / 2 + random.nextInt(1 + range / 8);
            for (int m = 0; m < 4; m++) {
                int figure = random.nextInt(range + 1);
                if (trades) {
                    figure = m == k - 1 ? Math.min(range, left) : random.nextInt(1 + Math.min(range, left));
                    left -= figure;
                }
                if (peaks && range > 3) {
                    int middle = range / k - random.nextInt(1 + range / 10);
                    figure = t % 5 == 4 ? middle : t % k == m ? range : random.nextInt(1 + range / 20);
                }
                figures[t][m] = base + Math.max(0, figure);
            }
            int turn = random.nextInt(k);
            int swapped = figures[t][turn];
            figures[t][turn] = figures[t][k - 1];
            figures[t][k - 1] = swapped;
        }
    }

    private void tellThings() {
        for (int t = 0; t < things; t++) {
            int thing = t;
            int[] f = figures[t];
            same("thing(" + thing + "," + f[0] + "," + f[1] + "," + f[2] + "," + f[3] + ")",
                () -> fast.thing(thing, f[0], f[1], f[2], f[3]) ? 1 : 0, () -> plain.thing(thing, f[0], f[1], f[2], f[3]) ? 1 : 0);
        }
    }

    private void makeRow() {
        same("row(-1)", () -> fast.row(-1) ? 1 : 0, () -> plain.row(-1) ? 1 : 0);
        for (int i = random.nextInt(5); i >= 0; i--) {
            int thing = someThing();
            same("row(" + thing + ")", () -> fast.row(thing) ? 1 : 0, () -> plain.row(thing) ? 1 : 0);
        }
        same("judged(0)", () -> fast.judged(0), () -> plain.judged(0));
        same("judged(1)", () -> fast.judged(1), () -> plain.judged(1));
    }

    private void ask(String name) {
        int a = someThing();
        int b = someThing();
        int m = someMeasure();
        int w = part();
        int n = random.nextInt(20) == 0 ? random.nextInt(130) - 10 : 1 + random.nextInt(20);
        int[] x = new int[4];
        for (int i = 0; i < 4; i++) x[i] = random.nextInt(60) == 0 ? random.nextInt(1300) - 100 : upTo(12) * upTo(3);
        switch (name) {
            case "value" -> same("value(" + a + "," + m + ")", () -> fast.value(a, m), () -> plain.value(a, m));
            case "standing" -> same("standing(" + a + ")", () -> fast.standing(a), () -> plain.standing(a));
            case "good" -> same("good(" + a + "," + x[0] + "," + x[1] + "," + x[2] + "," + x[3] + "," + w + ")",
                () -> fast.good(a, x[0], x[1], x[2], x[3], w), () -> plain.good(a, x[0], x[1], x[2], x[3], w));
            case "fits" -> same("fits(" + x[0] + "," + x[1] + "," + x[2] + "," + x[3] + ")",
                () -> fast.fits(x[0], x[1], x[2], x[3]), () -> plain.fits(x[0], x[1], x[2], x[3]));
            case "corner" -> {
                for (int c = -1; c <= fast.count(6); c++) {
                    for (int i = -1; i <= k; i++) {
                        int corner = c;
                        int measure = i;
                        same("corner(" + c + "," + i + ")", () -> fast.corner(corner, measure), () -> plain.corner(corner, measure));
                    }
                }
            }
            case "small" -> same("small(" + w + ")", () -> fast.small(w), () -> plain.small(w));
            case "better" -> same("better(" + a + "," + b + ")", () -> fast.better(a, b), () -> plain.better(a, b));
            case "gap" -> same("gap(" + a + "," + b + "," + w + ")", () -> fast.gap(a, b, w), () -> plain.gap(a, b, w));
            case "best" -> same("best(" + w + ")", () -> fast.best(w), () -> plain.best(w));
            case "regret" -> same("regret(" + a + "," + w + ")", () -> fast.regret(a, w), () -> plain.regret(a, w));
            case "least" -> same("least()", fast::least, plain::least);
            case "beaten" -> same("beaten(" + a + ")", () -> fast.beaten(a), () -> plain.beaten(a));
            case "next" -> {
                int what = random.nextInt(20) == 0 ? random.nextInt(7) - 2 : random.nextInt(3);
                same("next(" + what + ")", () -> fast.next(what), () -> plain.next(what));
            }
            case "few" -> same("few()", fast::few, plain::few);
            case "need" -> {
                boolean sure = random.nextBoolean();
                same("need(" + a + "," + m + "," + sure + ")", () -> fast.need(a, m, sure), () -> plain.need(a, m, sure));
            }
            case "share" -> {
                int thing = random.nextInt(3) == 0 ? -1 : a;
                same("share(" + thing + "," + n + ")", () -> fast.share(thing, n), () -> plain.share(thing, n));
            }
            case "why" -> same("why(" + a + "," + b + "," + w + ")", () -> fast.why(a, b, w), () -> plain.why(a, b, w));
            case "holds" -> {
                int s = random.nextInt(14) - 1;
                same("holds(" + s + "," + a + "," + b + ")", () -> fast.holds(s, a, b), () -> plain.holds(s, a, b));
            }
            case "edge" -> same("edge(" + a + "," + b + "," + m + ")", () -> fast.edge(a, b, m), () -> plain.edge(a, b, m));
            case "agree" -> same("agree(" + w + ")", () -> fast.agree(w), () -> plain.agree(w));
            case "yields" -> same("yields(" + w + ")", () -> fast.yields(w), () -> plain.yields(w));
            case "row" -> {
                if (random.nextInt(3) != 0) makeRow();
                int thing = random.nextInt(6) == 0 ? -1 : a;
                same("row(" + thing + ")", () -> fast.row(thing) ? 1 : 0, () -> plain.row(thing) ? 1 : 0);
            }
            case "judged" -> same("judged(" + w + ")", () -> fast.judged(w), () -> plain.judged(w));
            case "worst" -> same("worst()", fast::worst, plain::worst);
            case "first" -> {
                int order = anOrder();
                same("first(" + order + ")", () -> fast.first(order), () -> plain.first(order));
            }
            case "many" -> {
                int share = random.nextInt(20) == 0 ? random.nextInt(130) - 10 : 1 + upTo(99);
                same("many(" + share + ")", () -> fast.many(share), () -> plain.many(share));
            }
            case "count" -> {
                int what = random.nextInt(10) - 1;
                same("count(" + what + ")", () -> fast.count(what), () -> plain.count(what));
            }
            case "drop" -> {
                if (random.nextInt(9) == 0) same("drop(" + a + ")", () -> fast.drop(a) ? 1 : 0, () -> plain.drop(a) ? 1 : 0);
            }
            case "voices" -> {
                int set = random.nextInt(20) == 0 ? random.nextInt(400) - 60 : random.nextInt(256) | random.nextInt(256);
                if (random.nextInt(3) == 0)
                    same("voices(" + set + ")", () -> fast.voices(set) ? 1 : 0, () -> plain.voices(set) ? 1 : 0);
            }
            case "thing" -> {
                if (random.nextInt(3) == 0)
                    same("thing(" + a + "," + x[0] + "," + x[1] + "," + x[2] + "," + x[3] + ")",
                        () -> fast.thing(a, x[0], x[1], x[2], x[3]) ? 1 : 0, () -> plain.thing(a, x[0], x[1], x[2], x[3]) ? 1 : 0);
            }
            default -> { }
        }
    }

    private int anOrder() {
        int order = 0;
        int seen = 0;
        for (int i = 0; i < k; i++) {
            int digit = random.nextInt(k);
            while ((seen >> digit & 1) == 1 && random.nextInt(40) != 0) digit = random.nextInt(k);
            seen |= 1 << digit;
            order = order * 10 + digit;
        }
        return random.nextInt(15) == 0 ? random.nextInt(4000) - 300 : order;
    }

    private boolean run(int round) {
        k = 1 + random.nextInt(4);
        if (random.nextInt(3) == 0) k = 4;
        int newK = k;
        same("measures(" + k + ")", () -> fast.measures(newK) ? 1 : 0, () -> plain.measures(newK) ? 1 : 0);
        boolean heavy = round % 8 == 0;
        things = heavy ? 8 : 2 + random.nextInt(4);
        makeFigures();
        tellThings();
        for (int m = 0; m < 4; m++) hidden[m] = upTo(3) * upTo(10);
        hidden[random.nextInt(k)] += 1;
        int sayings = random.nextInt(4) == 0 ? 12 + random.nextInt(10) / 9 : random.nextInt(heavy ? 13 : 7);
        String text = text(sayings, 1 + random.nextInt(8));
        if (random.nextInt(4) == 0) read(spoilt(text));
        read(text);
        for (int i = 0; i < 60 && !wrong; i++) {
            String name = NAMES[random.nextInt(NAMES.length)];
            // Plainly told, two questions about eight things with many corners take long.
            boolean long1 = heavy && name.equals("few") && k > 2 && random.nextInt(12) != 0;
            if (!long1) ask(name);
        }
        if (wrong) System.out.println("round " + round + ":\n" + told);
        return !wrong;
    }

    public static void main(String[] args) {
        int rounds = args.length > 0 ? Integer.parseInt(args[0]) : 600;
        int base = args.length > 1 ? Integer.parseInt(args[1]) : 0;
        if (args.length > 2) SEEN = new java.util.TreeMap<>();
        int bad = 0;
        long calls = 0;
        for (int round = 0; round < rounds && bad < 3; round++) {
            AgainstPlainTest test = new AgainstPlainTest(base + round);
            if (!test.run(round)) bad++;
            calls += test.calls;
        }
        System.out.println(calls + " calls compared");
        if (SEEN != null) SEEN.forEach((answer, times) -> System.out.println(answer + "  " + times));
        if (bad > 0) System.exit(1);
    }
}
