import java.util.ArrayList;
import java.util.Arrays;
import java.util.List;
import java.util.NoSuchElementException;
import java.util.TreeSet;

/**
 * The document once more, as slowly and as plainly as it is told, to compare EveryMeasure with: corners
 * are tried out from all sets of rows, sets from all sets, numbers one by one.
 */
final class PlainMeasure {
    static final int NONE = -1;

    record Saying(int person, String word, int[] numbers) { }

    private int k = 3;
    private final int[][] figures = new int[8][];
    private final StringBuilder tape = new StringBuilder();
    private Integer[] less = new Integer[4];
    private Integer[] cap = new Integer[4];
    private Integer[] must = new Integer[4];
    private List<Saying> sayings = new ArrayList<>();
    private int voices = 255;
    private final List<Integer> row = new ArrayList<>();

    boolean measures(int newK) {
        if (newK < 1 || newK > 4) return false;
        k = newK;
        Arrays.fill(figures, null);
        less = new Integer[4];
        cap = new Integer[4];
        must = new Integer[4];
        sayings = new ArrayList<>();
        voices = 255;
        row.clear();
        return true;
    }

    boolean thing(int thing, int a, int b, int c, int d) {
        if (thing < 0 || thing > 7) return false;
        int[] told = Arrays.copyOf(new int[] {a, b, c, d}, k);
        for (int figure : told) if (figure < 0 || figure > 100) return false;
        figures[thing] = told;
        return true;
    }

    boolean drop(int thing) {
        if (!told(thing)) return false;
        figures[thing] = null;
        return true;
    }

    int feed(long a, long b, long c) {
        for (long word : new long[] {a, b, c}) {
            for (int i = 7; i >= 0; i--) {
                int sign = (int) ((word >> 8 * i) & 0xff);
                if ((sign == 10 || sign >= 32 && sign <= 126) && tape.length() < 1000) tape.append((char) sign);
            }
        }
        return tape.length();
    }

    // ---- the language

    private record Token(int place, String text) {
        boolean isWord() { return text.matches("[a-z]{1,8}"); }
        boolean isNumber() { return text.matches("[0-9]{1,3}"); }
        int number() { return Integer.parseInt(text); }
    }

    private static List<Token> tokens(String text) {
        List<Token> all = new ArrayList<>();
        var matcher = java.util.regex.Pattern.compile("[a-z]+|[0-9]+|[^ \n]").matcher(text);
        while (matcher.find()) all.add(new Token(matcher.start(), matcher.group()));
        all.add(new Token(text.length(), ""));
        return all;
    }

    private static final String[] FORMS = {
        "less F ;", "cap F N ;", "must F N ;", "P more M m ;", "P twice M m ;", "P step S M S m ;",
        "P least M N ;", "P most M N ;", "P better T t ;"};

    int choice() {
        String text = tape.toString();
        tape.setLength(0);
        Integer[][] flags = {new Integer[4], new Integer[4], new Integer[4]};
        List<Saying> newSayings = new ArrayList<>();
        List<Token> tokens = tokens(text);
        int at = 0;
        while (!tokens.get(at).text().isEmpty()) {
            int fault = -1;
            int furthest = -1;
            for (int form = 0; form < FORMS.length; form++) {
                int[] result = tryForm(form, tokens, at, flags, newSayings);
                if (result[0] == 0) {
                    fault = 0;
                    at = result[1];
                    break;
                }
                // The form that goes furthest was meant; a token that one form takes can stand there.
                if (result[1] > furthest || result[1] == furthest && result[0] > fault) {
                    furthest = result[1];
                    fault = result[0];
                }
            }
            if (fault != 0) return fault + 16 * tokens.get(furthest).place();
        }
        less = flags[0];
        cap = flags[1];
        must = flags[2];
        sayings = newSayings;
        return 0;
    }

    /** Answers {0, the place behind} or {the fault, its token}; what it reads is kept only without one. */
    private int[] tryForm(int form, List<Token> tokens, int from, Integer[][] flags, List<Saying> into) {
        String[] parts = FORMS[form].split(" ");
        List<Integer> numbers = new ArrayList<>();
        int person = -1;
        int firstOfTwo = -1;
        int at = from;
        for (String part : parts) {
            Token token = tokens.get(at);
            int fault = 0;
            if (part.equals("P")) {
                if (!token.text().matches("[a-h]")) fault = 1;
                else if (into.size() == 12) fault = 5;
                else person = token.text().charAt(0) - 'a';
            } else if (part.length() > 1 || part.equals(";")) {
                if (!token.text().equals(part)) fault = 1;
            } else if (!token.isNumber()) {
                fault = 1;
            } else {
                int n = token.number();
                int low = part.equals("S") ? 1 : 0;
                int high = "SN".contains(part) ? 100 : "Tt".contains(part) ? 7 : k - 1;
                if (n < low || n > high) fault = 4;
                else if ("mt".contains(part) && n == firstOfTwo) fault = 3;
                else if (part.equals("F") && flags[form][n] != null) fault = 3;
                if ("MT".contains(part)) firstOfTwo = n;
                numbers.add(n);
            }
            if (fault != 0) return new int[] {fault, at};
            at++;
        }
        if (form < 3) flags[form][numbers.get(0)] = numbers.get(numbers.size() - 1);
        else into.add(new Saying(person, parts[1], numbers.stream().mapToInt(i -> i).toArray()));
        return new int[] {0, at};
    }

    boolean voices(int set) {
        if (set < 0 || set > 255) return false;
        voices = set;
        return true;
    }

    // ---- values

    private boolean told(int thing) {
        return thing >= 0 && thing < 8 && figures[thing] != null;
    }

    private int uncapped(int thing, int m) {
        return less[m] != null ? 100 - figures[thing][m] : figures[thing][m];
    }

    private int[] values(int thing) {
        int[] values = new int[k];
        for (int m = 0; m < k; m++) {
            values[m] = uncapped(thing, m);
            if (cap[m] != null && values[m] > cap[m]) values[m] = cap[m];
        }
        return values;
    }

    int value(int thing, int m) {
        if (!told(thing) || m < 0 || m >= k) throw new NoSuchElementException();
        return values(thing)[m];
    }

    int standing(int thing) {
        if (!told(thing)) return NONE;
        for (int m = 0; m < k; m++) if (must[m] != null && uncapped(thing, m) < must[m]) return 0;
        return 1;
    }

    private List<Integer> in() {
        List<Integer> in = new ArrayList<>();
        for (int t = 0; t < 8; t++) if (standing(t) == 1) in.add(t);
        return in;
    }

    private int[] weights(int a, int b, int c, int d) {
        int[] w = Arrays.copyOf(new int[] {a, b, c, d}, k);
        for (int x : w) if (x < 0 || x > 999) return null;
        return Arrays.stream(w).sum() == 0 ? null : w;
    }

    private static long gcd(long a, long b) {
        return b == 0 ? Math.abs(a) : gcd(b, a % b);
    }

    private static long dot(long[] row, long[] w) {
        long sum = 0;
        for (int i = 0; i < row.length; i++) sum += row[i] * w[i];
        return sum;
    }

    int good(int thing, int a, int b, int c, int d, int what) {
        int[] w = weights(a, b, c, d);
        if (!told(thing) || w == null || what < 0 || what > 1) return NONE;
        int above = 0;
        int below = 0;
        for (int m = 0; m < k; m++) {
            above += w[m] * values(thing)[m];
            below += w[m];
        }
        int common = (int) gcd(above, below);
        return what == 0 ? above / common : below / common;
    }

    // ---- weights that fit

    private long[] saysRow(Saying s) {
        long[] r = new long[k];
        int[] n = s.numbers();
        switch (s.word()) {
            case "more" -> { r[n[0]] = 1; r[n[1]] = -1; }
            case "twice" -> { r[n[0]] = 1; r[n[1]] = -2; }
            case "step" -> { r[n[1]] = n[0]; r[n[3]] = -n[2]; }
            case "least" -> { Arrays.fill(r, -n[1]); r[n[0]] += 100; }
            case "most" -> { Arrays.fill(r, n[1]); r[n[0]] -= 100; }
            default -> { if (told(n[0]) && told(n[1])) return lead(n[0], n[1]); }
        }
        return r;
    }

    private long[] lead(int a, int b) {
        long[] r = new long[k];
        for (int m = 0; m < k; m++) r[m] = values(a)[m] - values(b)[m];
        return r;
    }

    private boolean counts(int saying) {
        return (voices >> sayings.get(saying).person() & 1) == 1;
    }

    private int counting() {
        int set = 0;
        for (int s = 0; s < sayings.size(); s++) if (counts(s)) set |= 1 << s;
        return set;
    }

    private List<long[]> rows(int sayingSet) {
        List<long[]> rows = new ArrayList<>();
        for (int s = 0; s < sayings.size(); s++) if ((sayingSet >> s & 1) == 1) rows.add(saysRow(sayings.get(s)));
        return rows;
    }

    private List<long[]> rows() {
        return rows(counting());
    }

    private static List<long[]> with(List<long[]> rows, long[]... more) {
        List<long[]> all = new ArrayList<>(rows);
        all.addAll(Arrays.asList(more));
        return all;
    }

    private TreeSet<long[]> corners(List<long[]> said) {
        TreeSet<long[]> rows = new TreeSet<>(Arrays::compare);
        rows.addAll(said);
        for (int m = 0; m < k; m++) {
            long[] unit = new long[k];
            unit[m] = 1;
            rows.add(unit);
        }
        TreeSet<long[]> found = new TreeSet<>(Arrays::compare);
        spanCorners(rows.toArray(new long[0][]), 0, new ArrayList<>(), found);
        return found;
    }

    private void spanCorners(long[][] rows, int from, List<long[]> picked, TreeSet<long[]> found) {
        if (picked.size() == k - 1) {
            long[] ray = new long[k];
            for (int m = 0; m < k; m++) {
                long[][] minor = new long[k - 1][k - 1];
                for (int i = 0; i < k - 1; i++)
                    for (int j = 0; j < k - 1; j++) minor[i][j] = picked.get(i)[j < m ? j : j + 1];
                ray[m] = (m % 2 == 0 ? 1 : -1) * determinant(minor);
            }
            addIfFits(rows, ray, 1, found);
            addIfFits(rows, ray, -1, found);
            return;
        }
        for (int r = from; r < rows.length; r++) {
            picked.add(rows[r]);
            spanCorners(rows, r + 1, picked, found);
            picked.remove(picked.size() - 1);
        }
    }

    private static long determinant(long[][] x) {
        switch (x.length) {
            case 0: return 1;
            case 1: return x[0][0];
            case 2: return x[0][0] * x[1][1] - x[0][1] * x[1][0];
            default:
                return x[0][0] * (x[1][1] * x[2][2] - x[1][2] * x[2][1])
                    - x[0][1] * (x[1][0] * x[2][2] - x[1][2] * x[2][0])
                    + x[0][2] * (x[1][0] * x[2][1] - x[1][1] * x[2][0]);
        }
    }

    private void addIfFits(long[][] rows, long[] ray, int sign, TreeSet<long[]> found) {
        long common = 0;
        for (long w : ray) common = gcd(common, w);
        if (common == 0) return;
        long[] w = new long[k];
        for (int m = 0; m < k; m++) w[m] = sign * ray[m] / common;
        for (long[] row : rows) if (dot(row, w) < 0) return;
        found.add(w);
    }

    private boolean can(List<long[]> rows) {
        return !corners(rows).isEmpty();
    }

    int fits(int a, int b, int c, int d) {
        int[] w = weights(a, b, c, d);
        if (w == null) return NONE;
        for (long[] row : rows()) if (dot(row, Arrays.stream(w).asLongStream().toArray()) < 0) return 0;
        return 1;
    }

    long corner(int corner, int m) {
        List<long[]> corners = new ArrayList<>(corners(rows()));
        return corner < 0 || corner >= corners.size() || m < 0 || m >= k ? NONE : corners.get(corner)[m];
    }

    /** All sets of n out of a set, by their members in order, as bits. */
    private static List<Integer> setsOf(int n, int set) {
        List<Integer> all = new ArrayList<>();
        for (int bits = 0; bits < 4096; bits++) if (Integer.bitCount(bits) == n && (bits & ~set) == 0) all.add(bits);
        // The one that has the lowest member that the other has not comes first.
        all.sort((x, y) -> x.equals(y) ? 0 : (x & Integer.lowestOneBit(x ^ y)) != 0 ? -1 : 1);
        return all;
    }

    int small(int what) {
        if (what < 0 || what > 1 || can(rows())) return NONE;
        for (int n = 1; n <= 4; n++)
            for (int set : setsOf(n, counting())) if (!can(rows(set))) return what == 0 ? n : set;
        return NONE;
    }

    // ---- what is better

    private int better(List<long[]> rows, int a, int b) {
        if (standing(a) != 1 || standing(b) != 1 || a == b || !can(rows)) return NONE;
        boolean all = true;
        for (long[] w : corners(rows)) all &= dot(lead(a, b), w) >= 0;
        return all ? 2 : can(with(rows, lead(a, b))) ? 1 : 0;
    }

    int better(int a, int b) {
        return better(rows(), a, b);
    }

    private long[] gapOf(int a, int b) {
        long[] most = null;
        for (long[] w : corners(rows())) {
            long above = dot(lead(b, a), w);
            long below = Arrays.stream(w).sum();
            if (most == null || above * most[1] > most[0] * below) most = new long[] {above, below};
        }
        long common = gcd(most[0], most[1]);
        return new long[] {most[0] / common, most[1] / common};
    }

    long gap(int a, int b, int what) {
        if (better(a, b) == NONE || what < 0 || what > 1) throw new NoSuchElementException();
        return gapOf(a, b)[what];
    }

    /** The rows of a thing's lead over all others that are in, with a growth of its own. */
    private List<long[]> leads(int thing, int m, int growth) {
        List<long[]> leads = new ArrayList<>();
        for (int other : in()) {
            if (other == thing) continue;
            long[] lead = lead(thing, other);
            lead[m] += growth;
            leads.add(lead);
        }
        return leads;
    }

    private boolean may(List<long[]> rows, int thing, int m, int growth) {
        return can(with(rows, leads(thing, m, growth).toArray(new long[0][])));
    }

    private boolean sure(List<long[]> rows, int thing, int m, int growth) {
        for (long[] w : corners(rows)) for (long[] lead : leads(thing, m, growth)) if (dot(lead, w) < 0) return false;
        return true;
    }

    private int best(List<long[]> rows, boolean sure) {
        int set = 0;
        for (int t : in()) if (sure ? sure(rows, t, 0, 0) : may(rows, t, 0, 0)) set |= 1 << t;
        return set;
    }

    int best(int what) {
        return what < 0 || what > 1 || !can(rows()) ? NONE : best(rows(), what == 1);
    }

    private long[] regretOf(int thing) {
        long[] most = {0, 1};
        for (int other : in()) {
            long[] gap = gapOf(thing, other);
            if (gap[0] * most[1] > most[0] * gap[1]) most = gap;
        }
        return most;
    }

    long regret(int thing, int what) {
        return standing(thing) != 1 || what < 0 || what > 1 || !can(rows()) ? NONE : regretOf(thing)[what];
    }

    int least() {
        if (!can(rows())) return NONE;
        int least = NONE;
        for (int t : in()) {
            if (least == NONE || regretOf(t)[0] * regretOf(least)[1] < regretOf(least)[0] * regretOf(t)[1]) least = t;
        }
        return least;
    }

    int beaten(int thing) {
        if (standing(thing) != 1 || !can(rows()) || may(rows(), thing, 0, 0)) return NONE;
        int others = 0;
        for (int t : in()) if (t != thing) others |= 1 << t;
        for (int n = 1; n <= 3; n++) {
            for (int set : setsOf(n, others)) {
                List<long[]> rows = rows();
                for (int t = 0; t < 8; t++) if ((set >> t & 1) == 1) rows.add(lead(thing, t));
                if (!can(rows)) return set;
            }
        }
        return NONE;
    }

    // ---- questions

    int next(int what) {
        if (what < 0 || what > 2 || !can(rows()) || in().size() < 2) return NONE;
        int[] found = null;
        for (int a : in()) {
            for (int b : in()) {
                if (b <= a) continue;
                int yes = Integer.bitCount(best(with(rows(), lead(a, b)), false));
                int no = Integer.bitCount(best(with(rows(), lead(b, a)), false));
                int greater = Math.max(yes, no);
                if (found == null || greater < found[2]) found = new int[] {a, b, greater};
            }
        }
        return found[what];
    }

    private boolean doneWith(List<long[]> rows, int questions) {
        if (!can(rows) || best(rows, true) != 0) return true;
        if (questions == 0) return false;
        for (int a : in())
            for (int b : in())
                if (a < b && doneWith(with(rows, lead(a, b)), questions - 1)
                        && doneWith(with(rows, lead(b, a)), questions - 1)) return true;
        return false;
    }

    int few() {
        if (!can(rows()) || in().isEmpty()) return NONE;
        for (int n = 0; n <= 2; n++) if (doneWith(rows(), n)) return n;
        return NONE;
    }

    int need(int thing, int m, boolean sure) {
        if (standing(thing) != 1 || m < 0 || m >= k || !can(rows())) return NONE;
        for (int growth = 0; values(thing)[m] + growth <= 100; growth++)
            if (sure ? sure(rows(), thing, m, growth) : may(rows(), thing, m, growth)) return growth;
        return NONE;
    }

    int share(int thing, int n) {
        if (n < 1 || n > 20 || thing != NONE && standing(thing) != 1) return NONE;
        List<long[]> rows = rows();
        if (thing != NONE) rows.addAll(leads(thing, 0, 0));
        return sharing(new long[k], 0, n, rows);
    }

    private int sharing(long[] w, int m, int left, List<long[]> rows) {
        if (m == k) {
            if (left != 0) return 0;
            for (long[] row : rows) if (dot(row, w) < 0) return 0;
            return 1;
        }
        int found = 0;
        for (int x = 0; x <= left; x++) {
            w[m] = x;
            found += sharing(w, m + 1, left - x, rows);
        }
        return found;
    }

    int why(int a, int b, int what) {
        if (what < 0 || what > 1 || better(a, b) != 2) return NONE;
        for (int n = 0; n <= 3; n++)
            for (int set : setsOf(n, counting())) if (better(rows(set), a, b) == 2) return what == 0 ? n : set;
        return NONE;
    }

    int holds(int saying, int a, int b) {
        return saying < 0 || saying >= sayings.size() ? NONE : better(rows(counting() & ~(1 << saying)), a, b);
    }

    int edge(int a, int b, int m) {
        if (m < 0 || m >= k || better(a, b) != 2) return NONE;
        for (int value = 0; ; value++) {
            long[] lead = lead(a, b);
            lead[m] += value - values(a)[m];
            boolean all = true;
            for (long[] w : corners(rows())) all &= dot(lead, w) >= 0;
            if (all) return value;
        }
    }

    // ---- persons

    private List<long[]> rowsOfPersons(int persons) {
        List<long[]> rows = new ArrayList<>();
        for (Saying s : sayings) if ((persons >> s.person() & 1) == 1) rows.add(saysRow(s));
        return rows;
    }

    int agree(int what) {
        if (what < 0 || what > 1) return NONE;
        for (int n = 8; ; n--)
            for (int set = 0; set < 256; set++)
                if (Integer.bitCount(set) == n && can(rowsOfPersons(set))) return what == 0 ? n : set;
    }

    int yields(int what) {
        if (what < 0 || what > 1) return NONE;
        for (int n = 0; n <= 8; n++) {
            for (int set = 0; set < 256; set++) {
                if (Integer.bitCount(set) != n || (set & ~voices) != 0) continue;
                List<long[]> rows = rowsOfPersons(voices & ~set);
                if (can(rows) && best(rows, true) != 0) return what == 0 ? n : set;
            }
        }
        return NONE;
    }

    // ---- the row, and other ways

    boolean row(int thing) {
        if (thing == NONE) {
            row.clear();
            return true;
        }
        if (thing < 0 || thing > 7 || row.contains(thing)) return false;
        row.add(thing);
        return true;
    }

    int judged(int what) {
        if (what < 0 || what > 1 || !can(rows())) return NONE;
        for (int t : row) if (standing(t) != 1) return NONE;
        List<long[]> rows = rows();
        for (int p = 1; p < row.size(); p++) {
            rows.add(lead(row.get(p - 1), row.get(p)));
            if (!can(rows)) return what == 0 ? 0 : p;
        }
        return what == 0 ? 1 : NONE;
    }

    int worst() {
        int greatest = in().stream().mapToInt(t -> Arrays.stream(values(t)).min().getAsInt()).max().orElse(0);
        int set = 0;
        for (int t : in()) if (Arrays.stream(values(t)).min().getAsInt() == greatest) set |= 1 << t;
        return set;
    }

    int first(int order) {
        String digits = Integer.toString(order);
        while (digits.length() < k) digits = "0" + digits;
        if (digits.length() != k) return NONE;
        for (int m = 0; m < k; m++) if (digits.indexOf('0' + m) < 0) return NONE;
        List<Integer> left = in();
        for (char digit : digits.toCharArray()) {
            int m = digit - '0';
            int greatest = left.stream().mapToInt(t -> values(t)[m]).max().orElse(0);
            left.removeIf(t -> values(t)[m] < greatest);
        }
        return left.stream().mapToInt(t -> 1 << t).sum();
    }

    private boolean outdoes(int a, int b, int n) {
        for (long[] w : corners(rows())) {
            long part = 0;
            for (int m = 0; m < k; m++) if (values(a)[m] >= values(b)[m]) part += w[m];
            if (100 * part < n * Arrays.stream(w).sum()) return false;
        }
        return true;
    }

    int many(int n) {
        if (n < 1 || n > 100 || !can(rows())) return NONE;
        int set = 0;
        for (int t : in()) {
            boolean stays = true;
            for (int other : in()) if (outdoes(other, t, n) && !outdoes(t, other, n)) stays = false;
            if (stays) set |= 1 << t;
        }
        return set;
    }

    int count(int what) {
        int told = 0;
        for (int[] f : figures) if (f != null) told++;
        return switch (what) {
            case 0 -> k;
            case 1 -> told;
            case 2 -> in().size();
            case 3 -> sayings.size();
            case 4 -> Integer.bitCount(counting());
            case 5 -> tape.length();
            case 6 -> corners(rows()).size();
            case 7 -> row.size();
            default -> NONE;
        };
    }
}
