import java.util.NoSuchElementException;

/**
 * Things told by measures of which people say what matters more, never by how much: what is better
 * by all weights that fit what was said, by some, by none. The promises stand in the document.
 */
public final class EveryMeasure {
    public static final int NONE = -1;

    private static final int FIRST_MEASURES = 3;
    private static final int MOST_MEASURES = 4;
    private static final int MOST_THINGS = 8;
    private static final int MOST_SAYINGS = 12;
    private static final int MOST_PERSONS = 8;
    private static final int ALL_PERSONS = 255;
    private static final int MOST_SIGNS = 1000;
    private static final int MOST_LETTERS = 8;
    private static final int MOST_DIGITS = 3;
    private static final int TOP = 100;
    private static final int MOST_WEIGHT = 999;
    private static final int MOST_SHARED = 20;
    private static final int MOST_SMALL = 4;
    private static final int MOST_WHY = 3;
    private static final int MOST_BEATERS = 3;

    /** 4 weights not below 0, 12 sayings and 7 leads at once: a cone of n rows has 2n - 4 corners at most. */
    private static final int MOST_CORNERS = 44;
    private static final int MOST_ROWS = 31;
    /** The cone at the start and one behind each of the 12 sayings. */
    private static final int STACK = 13;

    private static final int END = 0;
    private static final int WORD = 1;
    private static final int NUMBER = 2;
    private static final int SEMICOLON = 3;
    private static final int STRANGE = 4;

    private static final int FAULT_STRANGE = 1;
    private static final int FAULT_AGAIN = 3;
    private static final int FAULT_NUMBER = 4;
    private static final int FAULT_TOO_MANY = 5;

    private static final int SAYS_RATIO = 0;
    private static final int SAYS_LEAST = 1;
    private static final int SAYS_MOST = 2;
    private static final int SAYS_BETTER = 3;

    private final Tape tape;
    private final Reader reader;
    private final Things things;
    private final Weights weights;
    private final Judge judge;
    private final Picker picker;
    private final Crowd crowd;
    private final Span span;
    private final Fraction fraction;
    private final int[] given;
    private final int[] line;
    private final int[] never;
    private final int[] placed;
    private int places;
    private Choice said;
    private Choice draft;
    private int measures;
    private int voices;
    private boolean stale;

    public EveryMeasure() {
        tape = new Tape();
        reader = new Reader(tape);
        things = new Things();
        weights = new Weights();
        judge = new Judge(things, weights);
        picker = new Picker(weights);
        crowd = new Crowd(weights, judge);
        span = new Span();
        fraction = new Fraction();
        given = new int[MOST_MEASURES];
        line = new int[MOST_MEASURES];
        never = new int[MOST_MEASURES];
        placed = new int[MOST_THINGS];
        said = new Choice();
        draft = new Choice();
        for (int m = 0; m < MOST_MEASURES; m++) {
            never[m] = -1;
        }
        beginWith(FIRST_MEASURES);
    }

    public boolean measures(int k) {
        if (k < 1 || k > MOST_MEASURES) {
            return false;
        }
        beginWith(k);
        return true;
    }

    public boolean thing(int thing, int a, int b, int c, int d) {
        if (thing < 0 || thing >= MOST_THINGS || !takeGiven(a, b, c, d, TOP)) {
            return false;
        }
        things.tell(thing, given);
        stale = true;
        return true;
    }

    public boolean drop(int thing) {
        if (!things.isTold(thing)) {
            return false;
        }
        things.told &= ~(1 << thing);
        stale = true;
        return true;
    }

    public int feed(long a, long b, long c) {
        tape.put(a);
        tape.put(b);
        tape.put(c);
        return tape.length;
    }

    public int choice() {
        int fault = reader.read(draft, measures);
        tape.length = 0;
        if (fault == 0) {
            Choice old = said;
            said = draft;
            draft = old;
            stale = true;
        }
        return fault;
    }

    public boolean voices(int set) {
        if (set < 0 || set > ALL_PERSONS) {
            return false;
        }
        voices = set;
        stale = true;
        return true;
    }

    public int value(int thing, int measure) throws NoSuchElementException {
        freshen();
        if (!things.isTold(thing) || !hasMeasure(measure)) {
            throw new NoSuchElementException("no such value");
        }
        return things.values[thing][measure];
    }

    public int standing(int thing) {
        freshen();
        if (!things.isTold(thing)) {
            return NONE;
        }
        return things.isIn(thing) ? 1 : 0;
    }

    public int good(int thing, int a, int b, int c, int d, int what) {
        freshen();
        if (!things.isTold(thing) || !takeWeights(a, b, c, d) || !isPart(what)) {
            return NONE;
        }
        fraction.become(productWithGiven(things.values[thing]), sumOfGiven());
        fraction.reduce();
        return (int) fraction.part(what);
    }

    public int fits(int a, int b, int c, int d) {
        freshen();
        if (!takeWeights(a, b, c, d)) {
            return NONE;
        }
        for (int s = 0; s < MOST_SAYINGS; s++) {
            if ((weights.counted & 1 << s) != 0 && productWithGiven(weights.rows[s]) < 0) {
                return 0;
            }
        }
        return 1;
    }

    public long corner(int corner, int measure) {
        freshen();
        if (corner < 0 || corner >= weights.fit.corners || !hasMeasure(measure)) {
            return NONE;
        }
        return weights.fit.weight(corner, measure);
    }

    public int small(int what) {
        freshen();
        if (!isPart(what) || weights.theyCan()) {
            return NONE;
        }
        picker.among(weights.rows, weights.counted);
        return sizeOrSet(picker.fewest(weights.whole, MOST_SMALL, never), what);
    }

    public int better(int a, int b) {
        freshen();
        return judge.compare(weights.fit, a, b);
    }

    public long gap(int a, int b, int what) throws NoSuchElementException {
        freshen();
        if (!isPart(what) || judge.compare(weights.fit, a, b) == NONE) {
            throw new NoSuchElementException("no such gap");
        }
        judge.fillGap(a, b, fraction);
        fraction.reduce();
        return fraction.part(what);
    }

    public int best(int what) {
        freshen();
        if (!isPart(what) || !weights.theyCan()) {
            return NONE;
        }
        return what == 0 ? judge.mayBeBest() : judge.surelyBest(weights.fit);
    }

    public long regret(int thing, int what) {
        freshen();
        if (!isPart(what) || !things.isIn(thing) || !weights.theyCan()) {
            return NONE;
        }
        judge.fillRegret(thing, fraction);
        fraction.reduce();
        return fraction.part(what);
    }

    public int least() {
        freshen();
        return weights.theyCan() ? judge.leastRegret(fraction) : NONE;
    }

    public int beaten(int thing) {
        freshen();
        if (!things.isIn(thing) || !weights.theyCan() || judge.mayBeBest(thing)) {
            return NONE;
        }
        picker.among(judge.leadsOf(thing), things.in & ~(1 << thing));
        return picker.fewest(weights.fit, MOST_BEATERS, never);
    }

    public int next(int what) {
        freshen();
        if (what < 0 || what > 2 || !weights.theyCan() || Integer.bitCount(things.in) < 2) {
            return NONE;
        }
        int question = judge.partsMost();
        if (what == 2) {
            return judge.greaterCount(question);
        }
        return what == 0 ? question / MOST_THINGS : question % MOST_THINGS;
    }

    public int few() {
        freshen();
        return weights.theyCan() && things.in != 0 ? judge.fewQuestions() : NONE;
    }

    public int need(int thing, int measure, boolean sure) {
        freshen();
        if (!things.isIn(thing) || !hasMeasure(measure) || !weights.theyCan()) {
            return NONE;
        }
        return sure ? judge.needToBeSure(thing, measure) : judge.needToMaybe(thing, measure);
    }

    public int share(int thing, int n) {
        freshen();
        if (n < 1 || n > MOST_SHARED || thing != NONE && !things.isIn(thing)) {
            return NONE;
        }
        int others = 0;
        if (thing != NONE) {
            others = things.in & ~(1 << thing);
            judge.leadsOf(thing);
        }
        int found = 0;
        int mostOfSecond = measures > 2 ? n : 0;
        for (int second = 0; second <= mostOfSecond; second++) {
            int mostOfThird = measures > 3 ? n - second : 0;
            for (int third = 0; third <= mostOfThird; third++) {
                span.open(measures, n, second, third);
                span.narrowBy(weights.rows, weights.counted);
                span.narrowBy(judge.leads, others);
                found += span.width();
            }
        }
        return found;
    }

    public int why(int a, int b, int what) {
        freshen();
        if (!isPart(what) || judge.compare(weights.fit, a, b) != 2) {
            return NONE;
        }
        things.fillLead(a, b, line);
        picker.among(weights.rows, weights.counted);
        return sizeOrSet(picker.fewest(weights.whole, MOST_WHY, line), what);
    }

    public int holds(int saying, int a, int b) {
        freshen();
        if (saying < 0 || saying >= said.sayings) {
            return NONE;
        }
        return judge.compare(weights.cutBy(weights.counted & ~(1 << saying)), a, b);
    }

    public int edge(int a, int b, int measure) {
        freshen();
        if (!hasMeasure(measure) || judge.compare(weights.fit, a, b) != 2) {
            return NONE;
        }
        return judge.leastStillBetter(a, b, measure);
    }

    public int agree(int what) {
        freshen();
        if (!isPart(what)) {
            return NONE;
        }
        return sizeOrSet(crowd.mostThatAgree(said), what);
    }

    public int yields(int what) {
        freshen();
        if (!isPart(what)) {
            return NONE;
        }
        return sizeOrSet(crowd.fewestThatYield(said, voices), what);
    }

    public boolean row(int thing) {
        if (thing == NONE) {
            places = 0;
            return true;
        }
        if (thing < 0 || thing >= MOST_THINGS || places >= MOST_THINGS) {
            return false;
        }
        for (int p = 0; p < places; p++) {
            if (placed[p] == thing) {
                return false;
            }
        }
        placed[places] = thing;
        places++;
        return true;
    }

    public int judged(int what) {
        freshen();
        if (!isPart(what) || !weights.theyCan()) {
            return NONE;
        }
        for (int p = 0; p < places; p++) {
            if (!things.isIn(placed[p])) {
                return NONE;
            }
        }
        int broken = judge.brokenPlace(placed, places);
        if (what == 1) {
            return broken;
        }
        return broken == NONE ? 1 : 0;
    }

    public int worst() {
        freshen();
        return things.bestAtWorst(measures);
    }

    public int first(int order) {
        freshen();
        int left = order;
        int seen = 0;
        for (int m = measures - 1; m >= 0; m--) {
            int digit = left % 10;
            left /= 10;
            if (digit < 0 || digit >= measures || (seen & 1 << digit) != 0) {
                return NONE;
            }
            seen |= 1 << digit;
            line[m] = digit;
        }
        if (left != 0) {
            return NONE;
        }
        int ahead = things.in;
        for (int m = 0; m < measures; m++) {
            ahead = things.topOf(ahead, line[m]);
        }
        return ahead;
    }

    public int many(int n) {
        freshen();
        if (n < 1 || n > TOP || !weights.theyCan()) {
            return NONE;
        }
        return judge.notOutdone(n);
    }

    public int count(int what) {
        freshen();
        switch (what) {
            case 0:
                return measures;
            case 1:
                return Integer.bitCount(things.told);
            case 2:
                return Integer.bitCount(things.in);
            case 3:
                return said.sayings;
            case 4:
                return Integer.bitCount(weights.counted);
            case 5:
                return tape.length;
            case 6:
                return weights.fit.corners;
            case 7:
                return places;
            default:
                return NONE;
        }
    }

    private void beginWith(int k) {
        measures = k;
        things.told = 0;
        said.clear();
        places = 0;
        voices = ALL_PERSONS;
        stale = true;
    }

    /** Values, rows and corners are worked out once behind each change, not in each call. */
    private void freshen() {
        if (stale) {
            things.valueBy(said, measures);
            weights.workOut(said, things, voices, measures);
            stale = false;
        }
    }

    private boolean hasMeasure(int measure) {
        return measure >= 0 && measure < measures;
    }

    private static boolean isPart(int what) {
        return what == 0 || what == 1;
    }

    private static int sizeOrSet(int set, int what) {
        return set == NONE || what == 1 ? set : Integer.bitCount(set);
    }

    /** Takes the numbers of the measures that there are; the others are not asked and count 0. */
    private boolean takeGiven(int a, int b, int c, int d, int most) {
        given[0] = a;
        given[1] = b;
        given[2] = c;
        given[3] = d;
        for (int m = 0; m < MOST_MEASURES; m++) {
            if (m >= measures) {
                given[m] = 0;
            } else if (given[m] < 0 || given[m] > most) {
                return false;
            }
        }
        return true;
    }

    private boolean takeWeights(int a, int b, int c, int d) {
        return takeGiven(a, b, c, d, MOST_WEIGHT) && sumOfGiven() > 0;
    }

    private int sumOfGiven() {
        return given[0] + given[1] + given[2] + given[3];
    }

    private int productWithGiven(int[] row) {
        return row[0] * given[0] + row[1] * given[1] + row[2] * given[2] + row[3] * given[3];
    }

    /** A fraction; the part below stays above 0. */
    private static final class Fraction {
        long above = 0;
        long below = 1;

        void become(long newAbove, long newBelow) {
            above = newAbove;
            below = newBelow;
        }

        boolean isUnder(long otherAbove, long otherBelow) {
            return above * otherBelow < otherAbove * below;
        }

        long part(int what) {
            return what == 0 ? above : below;
        }

        void reduce() {
            long common = commonDivisor(above, below);
            if (common > 1) {
                above /= common;
                below /= common;
            }
        }

        static long commonDivisor(long a, long b) {
            long greater = a < 0 ? -a : a;
            long lesser = b < 0 ? -b : b;
            // Euclid's steps on longs end well before this bound.
            for (int i = 0; i < 200 && lesser != 0; i++) {
                long rest = greater % lesser;
                greater = lesser;
                lesser = rest;
            }
            return greater;
        }
    }

    /** The signs that were fed, and the token that stands at the reading place. */
    private static final class Tape {
        final byte[] signs = new byte[MOST_SIGNS];
        int length = 0;
        int kind = END;
        int start = 0;
        int end = 0;

        void put(long eight) {
            for (int shift = 56; shift >= 0; shift -= 8) {
                int sign = (int) (eight >>> shift) & 255;
                boolean known = sign == 10 || sign >= 32 && sign <= 126;
                if (known && length < MOST_SIGNS) {
                    signs[length] = (byte) sign;
                    length++;
                }
            }
        }

        void rewind() {
            end = 0;
            step();
        }

        /** Words and numbers go on as long as their signs do; beyond their length they are none. */
        void step() {
            start = end;
            while (start < length && (signs[start] == 10 || signs[start] == 32)) {
                start++;
            }
            kind = start < length ? kindOf(signs[start]) : END;
            end = Math.min(start + 1, length);
            boolean goesOn = kind == WORD || kind == NUMBER;
            while (goesOn && end < length && kindOf(signs[end]) == kind) {
                end++;
            }
            if (goesOn && end - start > (kind == WORD ? MOST_LETTERS : MOST_DIGITS)) {
                kind = STRANGE;
            }
        }

        /** What the token tells if it is a number. */
        int number() {
            int number = 0;
            for (int i = start; i < end && kind == NUMBER; i++) {
                number = number * 10 + signs[i] - '0';
            }
            return number;
        }

        private static int kindOf(int sign) {
            if (sign >= 'a' && sign <= 'z') {
                return WORD;
            }
            if (sign >= '0' && sign <= '9') {
                return NUMBER;
            }
            return sign == ';' ? SEMICOLON : STRANGE;
        }

        boolean says(String word) {
            if (kind != WORD || end - start != word.length()) {
                return false;
            }
            for (int i = 0; i < word.length(); i++) {
                if (signs[start + i] != word.charAt(i)) {
                    return false;
                }
            }
            return true;
        }

        /** The person (a is 0) that the token names, or none. */
        int person() {
            if (kind != WORD || end - start != 1 || start >= length) {
                return NONE;
            }
            int person = signs[start] - 'a';
            return person < MOST_PERSONS ? person : NONE;
        }
    }

    /** What is said: how figures become values, and the sayings of the persons. */
    private static final class Choice {
        final int[] less = new int[MOST_MEASURES];
        final int[] cap = new int[MOST_MEASURES];
        final int[] must = new int[MOST_MEASURES];
        final int[] person = new int[MOST_SAYINGS];
        final int[] kind = new int[MOST_SAYINGS];
        final int[] first = new int[MOST_SAYINGS];
        final int[] second = new int[MOST_SAYINGS];
        final int[] times = new int[MOST_SAYINGS];
        final int[] otherTimes = new int[MOST_SAYINGS];
        int sayings = 0;

        void clear() {
            for (int m = 0; m < MOST_MEASURES; m++) {
                less[m] = NONE;
                cap[m] = NONE;
                must[m] = NONE;
            }
            sayings = 0;
        }

        void say(int who, int kindOfSaying, int a, int b, int timesOfA, int timesOfB) {
            if (sayings >= MOST_SAYINGS) {
                return;
            }
            person[sayings] = who;
            kind[sayings] = kindOfSaying;
            first[sayings] = a;
            second[sayings] = b;
            times[sayings] = timesOfA;
            otherTimes[sayings] = timesOfB;
            sayings++;
        }

        /** The sayings, as bits, of a set of persons. */
        int sayingsOf(int persons) {
            int set = 0;
            for (int s = 0; s < sayings; s++) {
                if ((persons & 1 << person[s]) != 0) {
                    set |= 1 << s;
                }
            }
            return set;
        }

        /** Fills the row whose product with the weights is 0 or more if they fit the saying. */
        void fillRow(int s, int[] row, Things things, int measures) {
            int all = 0;
            if (kind[s] == SAYS_LEAST) {
                all = -times[s];
            } else if (kind[s] == SAYS_MOST) {
                all = times[s];
            }
            for (int m = 0; m < MOST_MEASURES; m++) {
                row[m] = m < measures ? all : 0;
            }
            if (kind[s] == SAYS_LEAST) {
                row[first[s]] += TOP;
            } else if (kind[s] == SAYS_MOST) {
                row[first[s]] -= TOP;
            } else if (kind[s] == SAYS_RATIO) {
                row[first[s]] = times[s];
                row[second[s]] = -otherTimes[s];
            } else if (things.isTold(first[s]) && things.isTold(second[s])) {
                things.fillLead(first[s], second[s], row);
            }
        }
    }

    /** Reads the tape as a choice, up to the first token that is wrong. */
    private static final class Reader {
        private final Tape tape;
        private int measures = 0;
        private int fault = 0;

        Reader(Tape tape) {
            this.tape = tape;
        }

        int read(Choice into, int howManyMeasures) {
            measures = howManyMeasures;
            fault = 0;
            into.clear();
            tape.rewind();
            for (int i = 0; i < MOST_SIGNS && fault == 0 && tape.kind != END; i++) {
                readStatement(into);
            }
            return fault;
        }

        private void readStatement(Choice into) {
            if (tape.says("less")) {
                readLess(into);
            } else if (tape.says("cap")) {
                readLimit(into.cap);
            } else if (tape.says("must")) {
                readLimit(into.must);
            } else if (tape.person() == NONE) {
                wrong(FAULT_STRANGE);
            } else if (into.sayings >= MOST_SAYINGS) {
                wrong(FAULT_TOO_MANY);
            } else {
                readSaying(into, tape.person());
            }
            takeSemicolon();
        }

        private void readLess(Choice into) {
            tape.step();
            int measure = takeFreshMeasure(into.less);
            if (fault == 0) {
                into.less[measure] = 1;
            }
        }

        private void readLimit(int[] limits) {
            tape.step();
            int measure = takeFreshMeasure(limits);
            int limit = takeNumber(0, TOP, NONE);
            if (fault == 0) {
                limits[measure] = limit;
            }
        }

        private void readSaying(Choice into, int person) {
            tape.step();
            if (tape.says("more")) {
                readPair(into, person, SAYS_RATIO, measures, 1);
            } else if (tape.says("twice")) {
                readPair(into, person, SAYS_RATIO, measures, 2);
            } else if (tape.says("better")) {
                readPair(into, person, SAYS_BETTER, MOST_THINGS, 1);
            } else if (tape.says("step")) {
                readStep(into, person);
            } else if (tape.says("least")) {
                readBound(into, person, SAYS_LEAST);
            } else if (tape.says("most")) {
                readBound(into, person, SAYS_MOST);
            } else {
                wrong(FAULT_STRANGE);
            }
        }

        private void readPair(Choice into, int person, int kind, int bound, int timesOfSecond) {
            tape.step();
            int first = takeNumber(0, bound - 1, NONE);
            int second = takeNumber(0, bound - 1, first);
            if (fault == 0) {
                into.say(person, kind, first, second, 1, timesOfSecond);
            }
        }

        private void readStep(Choice into, int person) {
            tape.step();
            int times = takeNumber(1, TOP, NONE);
            int first = takeNumber(0, measures - 1, NONE);
            int otherTimes = takeNumber(1, TOP, NONE);
            int second = takeNumber(0, measures - 1, first);
            if (fault == 0) {
                into.say(person, SAYS_RATIO, first, second, times, otherTimes);
            }
        }

        private void readBound(Choice into, int person, int kind) {
            tape.step();
            int measure = takeNumber(0, measures - 1, NONE);
            int bound = takeNumber(0, TOP, NONE);
            if (fault == 0) {
                into.say(person, kind, measure, measure, bound, 0);
            }
        }

        private int takeFreshMeasure(int[] told) {
            int number = tape.number();
            if (fault == 0 && tape.kind == NUMBER && number < measures && told[number] != NONE) {
                wrong(FAULT_AGAIN);
            }
            return takeNumber(0, measures - 1, NONE);
        }

        /** Behind a fault nothing is taken any more: the first one stays. */
        private int takeNumber(int low, int high, int taken) {
            if (fault != 0) {
                return NONE;
            }
            int number = tape.number();
            if (tape.kind != NUMBER) {
                wrong(FAULT_STRANGE);
            } else if (number < low || number > high) {
                wrong(FAULT_NUMBER);
            } else if (number == taken) {
                wrong(FAULT_AGAIN);
            } else {
                tape.step();
                return number;
            }
            return NONE;
        }

        private void takeSemicolon() {
            if (fault != 0) {
                return;
            }
            if (tape.kind == SEMICOLON) {
                tape.step();
            } else {
                wrong(FAULT_STRANGE);
            }
        }

        private void wrong(int kindOfFault) {
            fault = kindOfFault + 16 * tape.start;
        }
    }

    /** The things: their figures, and by the choice their values and which of them are in. */
    private static final class Things {
        final int[][] figures = new int[MOST_THINGS][MOST_MEASURES];
        final int[][] values = new int[MOST_THINGS][MOST_MEASURES];
        private final long[] scores = new long[MOST_THINGS];
        int told = 0;
        int in = 0;

        void tell(int thing, int[] newFigures) {
            for (int m = 0; m < MOST_MEASURES; m++) {
                figures[thing][m] = newFigures[m];
            }
            told |= 1 << thing;
        }

        boolean isTold(int thing) {
            return thing >= 0 && thing < MOST_THINGS && (told & 1 << thing) != 0;
        }

        boolean isIn(int thing) {
            return thing >= 0 && thing < MOST_THINGS && (in & 1 << thing) != 0;
        }

        void valueBy(Choice choice, int measures) {
            in = told;
            for (int t = 0; t < MOST_THINGS; t++) {
                for (int m = 0; m < MOST_MEASURES; m++) {
                    int value = m < measures ? figures[t][m] : 0;
                    if (choice.less[m] != NONE) {
                        value = TOP - value;
                    }
                    // What must be is asked of the value ahead of the cap.
                    if (value < choice.must[m]) {
                        in &= ~(1 << t);
                    }
                    values[t][m] = choice.cap[m] == NONE ? value : Math.min(value, choice.cap[m]);
                }
            }
        }

        /** By how much the values of a are above those of b. */
        void fillLead(int a, int b, int[] row) {
            for (int m = 0; m < MOST_MEASURES; m++) {
                row[m] = values[a][m] - values[b][m];
            }
        }

        /** Those of a set that have its greatest value by a measure. */
        int topOf(int set, int measure) {
            for (int t = 0; t < MOST_THINGS; t++) {
                scores[t] = values[t][measure];
            }
            return greatestOf(set, scores);
        }

        /** Those in whose least value is the greatest. */
        int bestAtWorst(int measures) {
            for (int t = 0; t < MOST_THINGS; t++) {
                scores[t] = leastValue(t, measures);
            }
            return greatestOf(in, scores);
        }

        /** Those of a set that have its greatest score; scores are 0 or more. */
        static int greatestOf(int set, long[] scores) {
            int top = 0;
            long greatest = NONE;
            for (int t = 0; t < MOST_THINGS; t++) {
                if ((set & 1 << t) != 0 && scores[t] >= greatest) {
                    top = scores[t] > greatest ? 1 << t : top | 1 << t;
                    greatest = scores[t];
                }
            }
            return top;
        }

        private int leastValue(int thing, int measures) {
            int value = TOP;
            for (int m = 0; m < measures; m++) {
                value = Math.min(value, values[thing][m]);
            }
            return value;
        }
    }

    /**
     * All weights that keep some rows (their product with a row is 0 or more), told by its corners.
     * All numbers of rows are within 100, so a corner's weights, 3 by 3 determinants of them at most,
     * are within 4,000,000, and the products of two products with rows stay within a long.
     */
    private static final class Cone {
        private final long[] weightsOfCorners = new long[MOST_CORNERS * MOST_MEASURES];
        /** For each corner the rows, as bits, whose product with it is 0. */
        private final int[] tight = new int[MOST_CORNERS];
        private final long[] side = new long[MOST_CORNERS];
        private int measures = 0;
        private int rows = 0;
        int corners = 0;

        /** Becomes all weights that there are. */
        void becomeWhole(int howManyMeasures) {
            measures = howManyMeasures;
            rows = howManyMeasures;
            corners = howManyMeasures;
            for (int c = 0; c < corners; c++) {
                for (int m = 0; m < MOST_MEASURES; m++) {
                    weightsOfCorners[c * MOST_MEASURES + m] = m == c ? 1 : 0;
                }
                tight[c] = (1 << rows) - 1 & ~(1 << c);
            }
        }

        void become(Cone other) {
            measures = other.measures;
            rows = other.rows;
            corners = 0;
            for (int c = 0; c < other.corners; c++) {
                take(other, c, 0);
            }
        }

        long weight(int corner, int measure) {
            return weightsOfCorners[corner * MOST_MEASURES + measure];
        }

        long product(int corner, int[] row) {
            long sum = 0;
            for (int m = 0; m < measures; m++) {
                sum += weightsOfCorners[corner * MOST_MEASURES + m] * row[m];
            }
            return sum;
        }

        long sum(int corner) {
            long sum = 0;
            for (int m = 0; m < measures; m++) {
                sum += weightsOfCorners[corner * MOST_MEASURES + m];
            }
            return sum;
        }

        /** Becomes what of another cone keeps a row more. */
        void becomeCut(Cone other, int[] row) {
            int bit = other.rows < MOST_ROWS ? 1 << other.rows : 0;
            measures = other.measures;
            rows = other.rows + 1;
            corners = 0;
            for (int c = 0; c < other.corners; c++) {
                long product = other.product(c, row);
                other.side[c] = product;
                if (product >= 0) {
                    take(other, c, product == 0 ? bit : 0);
                }
            }
            for (int c = 0; c < other.corners; c++) {
                for (int d = 0; d < other.corners; d++) {
                    if (other.side[c] > 0 && other.side[d] < 0 && other.isEdge(c, d)) {
                        join(other, c, d, bit);
                    }
                }
            }
        }

        private void take(Cone other, int corner, int bit) {
            if (corners >= MOST_CORNERS) {
                return;
            }
            for (int m = 0; m < MOST_MEASURES; m++) {
                weightsOfCorners[corners * MOST_MEASURES + m] = other.weight(corner, m);
            }
            tight[corners] = other.tight[corner] | bit;
            corners++;
        }

        /** Two corners span an edge if no third one lies on all the rows that both lie on. */
        private boolean isEdge(int c, int d) {
            int common = tight[c] & tight[d];
            if (Integer.bitCount(common) < measures - 2) {
                return false;
            }
            for (int other = 0; other < corners; other++) {
                if ((tight[other] & common) == common && other != c && other != d) {
                    return false;
                }
            }
            return true;
        }

        /** Takes the corner at which the edge from c, ahead of the cut, to d, behind it, is cut. */
        private void join(Cone other, int c, int d, int bit) {
            if (corners >= MOST_CORNERS) {
                return;
            }
            long partOfD = other.side[c];
            long partOfC = -other.side[d];
            long common = 0;
            int at = corners * MOST_MEASURES;
            for (int m = 0; m < MOST_MEASURES; m++) {
                long weight = partOfC * other.weight(c, m) + partOfD * other.weight(d, m);
                weightsOfCorners[at + m] = weight;
                common = Fraction.commonDivisor(weight, common);
            }
            if (common > 1) {
                for (int m = 0; m < MOST_MEASURES; m++) {
                    weightsOfCorners[at + m] /= common;
                }
            }
            tight[corners] = other.tight[c] & other.tight[d] | bit;
            corners++;
        }

        /** Puts the corners in order by the first weight, then the second, and so on. */
        void sort() {
            for (int end = 1; end < corners; end++) {
                for (int c = end; c > 0 && isBehind(c - 1, c); c--) {
                    swap(c - 1, c);
                }
            }
        }

        private boolean isBehind(int c, int d) {
            for (int m = 0; m < measures; m++) {
                if (weight(c, m) != weight(d, m)) {
                    return weight(c, m) > weight(d, m);
                }
            }
            return false;
        }

        private void swap(int c, int d) {
            for (int m = 0; m < MOST_MEASURES; m++) {
                long weight = weight(c, m);
                weightsOfCorners[c * MOST_MEASURES + m] = weight(d, m);
                weightsOfCorners[d * MOST_MEASURES + m] = weight;
            }
            int rowsOfC = tight[c];
            tight[c] = tight[d];
            tight[d] = rowsOfC;
        }

        boolean keeps(int[] row) {
            for (int c = 0; c < corners; c++) {
                if (product(c, row) < 0) {
                    return false;
                }
            }
            return true;
        }

        /**
         * Whether what keeps the one row keeps the goal: by Farkas it does if the goal less some
         * multiple (0 or more) of the row is kept by all corners, so no cut need be made.
         */
        boolean impliesWith(int[] row, int[] goal) {
            long mostAbove = 0;
            long mostBelow = 0;
            long leastAbove = 0;
            long leastBelow = 1;
            for (int c = 0; c < corners; c++) {
                long given = product(c, row);
                long wanted = product(c, goal);
                if (given >= 0 && wanted < 0) {
                    return false;
                }
                if (given > 0 && (mostBelow == 0 || wanted * mostBelow < mostAbove * given)) {
                    mostAbove = wanted;
                    mostBelow = given;
                }
                if (given < 0 && -wanted * leastBelow > leastAbove * -given) {
                    leastAbove = -wanted;
                    leastBelow = -given;
                }
            }
            return mostBelow == 0 || leastAbove * mostBelow <= mostAbove * leastBelow;
        }
    }

    /** The rows of the sayings, which of them count, and the weights that fit these. */
    private static final class Weights {
        final int[][] rows = new int[MOST_SAYINGS][MOST_MEASURES];
        final Cone whole = new Cone();
        final Cone fit = new Cone();
        /** Cones for all that is tried out; a search begins at the lowest one. */
        final Cone[] stack = new Cone[STACK];
        int counted = 0;

        Weights() {
            for (int i = 0; i < STACK; i++) {
                stack[i] = new Cone();
            }
        }

        boolean theyCan() {
            return fit.corners > 0;
        }

        void workOut(Choice choice, Things things, int voices, int measures) {
            for (int s = 0; s < choice.sayings; s++) {
                choice.fillRow(s, rows[s], things, measures);
            }
            counted = choice.sayingsOf(voices);
            whole.becomeWhole(measures);
            fit.become(cutBy(counted));
            fit.sort();
        }

        /** The weights that fit a set of sayings, until the stack is used again. */
        Cone cutBy(int sayings) {
            stack[0].become(whole);
            int depth = 0;
            for (int s = 0; s < MOST_SAYINGS; s++) {
                if ((sayings & 1 << s) != 0) {
                    stack[depth + 1].becomeCut(stack[depth], rows[s]);
                    depth++;
                }
            }
            return stack[depth];
        }
    }

    /** Looks for the fewest of some rows with which a cone keeps a goal, the first ones in order. */
    private static final class Picker {
        private final Cone[] stack;
        private int[][] rows;
        private int usable = 0;

        Picker(Weights weights) {
            stack = weights.stack;
            rows = weights.rows;
        }

        void among(int[][] newRows, int newUsable) {
            rows = newRows;
            usable = newUsable;
        }

        int fewest(Cone start, int most, int[] goal) {
            stack[0].become(start);
            for (int size = 0; size <= most; size++) {
                int found = pick(0, 0, size, goal);
                if (found != NONE) {
                    return found;
                }
            }
            return NONE;
        }

        private int pick(int depth, int from, int left, int[] goal) {
            if (left <= 0) {
                return stack[depth].keeps(goal) ? 0 : NONE;
            }
            for (int r = from; r < rows.length; r++) {
                if ((usable & 1 << r) != 0) {
                    int others = pickBehind(depth, r, left, goal);
                    if (others != NONE) {
                        return others | 1 << r;
                    }
                }
            }
            return NONE;
        }

        private int pickBehind(int depth, int picked, int left, int[] goal) {
            if (left == 1) {
                return stack[depth].impliesWith(rows[picked], goal) ? 0 : NONE;
            }
            if (depth + 1 >= stack.length) {
                return NONE;
            }
            stack[depth + 1].becomeCut(stack[depth], rows[picked]);
            return pick(depth + 1, picked + 1, left - 1, goal);
        }
    }

    /** Looks for the most persons of a pool whose sayings go together. */
    private static final class Crowd {
        private final Weights weights;
        private final Judge judge;
        private final int[] sayings = new int[MOST_PERSONS];
        private int pool = 0;
        private boolean mustSettle = false;
        private int kept = NONE;

        Crowd(Weights weights, Judge judge) {
            this.weights = weights;
            this.judge = judge;
        }

        int mostThatAgree(Choice choice) {
            prepare(choice, ALL_PERSONS, false);
            ask(MOST_PERSONS - 1, 0, 0);
            return kept;
        }

        /** The fewest of the voices without whom the others leave one thing surely best. */
        int fewestThatYield(Choice choice, int voices) {
            prepare(choice, voices, true);
            ask(MOST_PERSONS - 1, 0, 0);
            return kept == NONE ? NONE : voices & ~kept;
        }

        private void prepare(Choice choice, int newPool, boolean newMustSettle) {
            for (int p = 0; p < MOST_PERSONS; p++) {
                sayings[p] = choice.sayingsOf(newPool & 1 << p);
            }
            pool = newPool;
            mustSettle = newMustSettle;
            kept = NONE;
            weights.stack[0].become(weights.whole);
        }

        /**
         * Goes through who is kept, from a person down to the first one; whether all of these can be.
         * If they can, leaving one of them out keeps fewer and makes nothing surer.
         */
        private boolean ask(int person, int depth, int keeping) {
            int open = pool & (1 << person + 1) - 1;
            if (kept != NONE && Integer.bitCount(keeping | open) < Integer.bitCount(kept)) {
                return false;
            }
            if (person < 0) {
                settle(depth, keeping);
                return true;
            }
            int bit = pool & 1 << person;
            int deeper = hear(sayings[person], depth);
            boolean all = weights.stack[deeper].corners > 0 && ask(person - 1, deeper, keeping | bit);
            // Who says nothing is never left out.
            if (!all && deeper != depth) {
                ask(person - 1, depth, keeping);
            }
            return all;
        }

        /** Cuts by some sayings more; the depth at which that ends. */
        private int hear(int set, int depth) {
            int deeper = depth;
            for (int s = 0; s < MOST_SAYINGS; s++) {
                if ((set & 1 << s) != 0 && deeper + 1 < STACK) {
                    weights.stack[deeper + 1].becomeCut(weights.stack[deeper], weights.rows[s]);
                    deeper++;
                }
            }
            return deeper;
        }

        /** Of as many the least set is told: of those kept, or of those that yield. */
        private void settle(int depth, int keeping) {
            if (mustSettle && judge.surelyBest(weights.stack[depth]) == 0) {
                return;
            }
            int more = Integer.bitCount(keeping) - (kept == NONE ? NONE : Integer.bitCount(kept));
            if (more > 0 || more == 0 && (mustSettle ? keeping > kept : keeping < kept)) {
                kept = keeping;
            }
        }
    }

    /** Counts the whole weights of a sum along one line: the first one and the last share the rest. */
    private static final class Span {
        private int last = 0;
        private int rest = 0;
        private int second = 0;
        private int third = 0;
        private int low = 0;
        private int high = 0;

        void open(int measures, int sum, int newSecond, int newThird) {
            last = measures - 1;
            second = newSecond;
            third = newThird;
            rest = sum - second - third;
            low = last == 0 ? rest : 0;
            high = rest;
        }

        void narrowBy(int[][] rows, int set) {
            for (int r = 0; r < rows.length; r++) {
                if ((set & 1 << r) != 0) {
                    narrow(rows[r]);
                }
            }
        }

        private void narrow(int[] row) {
            int slope = row[0] - row[last];
            int base = row[1] * second + row[2] * third + row[last] * rest;
            if (slope > 0) {
                low = Math.max(low, -Math.floorDiv(base, slope));
            } else if (slope < 0) {
                high = Math.min(high, Math.floorDiv(base, -slope));
            } else if (base < 0) {
                high = NONE;
            }
        }

        int width() {
            return Math.max(0, high - low + 1);
        }
    }

    /** Judges the things that are in by the weights that fit. */
    private static final class Judge {
        private final Things things;
        private final Weights weights;
        final int[][] leads = new int[MOST_THINGS][MOST_MEASURES];
        private final int[] line = new int[MOST_MEASURES];
        private final int[] goal = new int[MOST_MEASURES];
        private final long[] goods = new long[MOST_THINGS];
        private final int[] bestAt = new int[MOST_CORNERS];
        /** For each two things those that may be best where the first is not below the second. */
        private final int[] behind = new int[MOST_THINGS * MOST_THINGS];
        private final int[] outdone = new int[MOST_THINGS];

        Judge(Things things, Weights weights) {
            this.things = things;
            this.weights = weights;
        }

        int compare(Cone cone, int a, int b) {
            if (!things.isIn(a) || !things.isIn(b) || a == b || cone.corners == 0) {
                return NONE;
            }
            things.fillLead(a, b, line);
            boolean byAll = true;
            boolean bySome = false;
            for (int c = 0; c < cone.corners; c++) {
                boolean here = cone.product(c, line) >= 0;
                byAll = byAll && here;
                bySome = bySome || here;
            }
            return byAll ? 2 : bySome ? 1 : 0;
        }

        /** Makes the fraction the gap of a to b. */
        void fillGap(int a, int b, Fraction into) {
            things.fillLead(b, a, line);
            for (int c = 0; c < weights.fit.corners; c++) {
                raise(into, c, c == 0);
            }
        }

        /** The gap to the thing itself, 0, is the least that a regret can be. */
        void fillRegret(int thing, Fraction into) {
            into.become(0, 1);
            for (int t = 0; t < MOST_THINGS; t++) {
                if (things.isIn(t)) {
                    things.fillLead(t, thing, line);
                    for (int c = 0; c < weights.fit.corners; c++) {
                        raise(into, c, false);
                    }
                }
            }
        }

        private void raise(Fraction into, int corner, boolean anew) {
            long above = weights.fit.product(corner, line);
            long below = weights.fit.sum(corner);
            if (anew || into.isUnder(above, below)) {
                into.become(above, below);
            }
        }

        int leastRegret(Fraction scratch) {
            int least = NONE;
            long above = 0;
            long below = 1;
            for (int t = 0; t < MOST_THINGS; t++) {
                if (things.isIn(t)) {
                    fillRegret(t, scratch);
                    if (least == NONE || scratch.isUnder(above, below)) {
                        least = t;
                        above = scratch.above;
                        below = scratch.below;
                    }
                }
            }
            return least;
        }

        private void fillGoods(Cone cone, int corner) {
            for (int t = 0; t < MOST_THINGS; t++) {
                goods[t] = cone.product(corner, things.values[t]);
            }
        }

        /** Those in, as bits, than which none is better by the weights of a corner. */
        private int bestByCorner(Cone cone, int corner) {
            fillGoods(cone, corner);
            return Things.greatestOf(things.in, goods);
        }

        int surelyBest(Cone cone) {
            int sure = things.in;
            for (int c = 0; c < cone.corners && sure != 0; c++) {
                sure &= bestByCorner(cone, c);
            }
            return sure;
        }

        int mayBeBest() {
            int may = 0;
            for (int c = 0; c < weights.fit.corners; c++) {
                may |= bestByCorner(weights.fit, c);
            }
            for (int t = 0; t < MOST_THINGS; t++) {
                if (things.isIn(t) && (may & 1 << t) == 0 && mayBeBest(t)) {
                    may |= 1 << t;
                }
            }
            return may;
        }

        boolean mayBeBest(int thing) {
            return whereBest(thing, 0, 0).corners > 0;
        }

        /** The weights by which a thing is best if its value by a measure grows, until the stack is used again. */
        private Cone whereBest(int thing, int measure, int growth) {
            Cone[] stack = weights.stack;
            stack[0].become(weights.fit);
            int depth = 0;
            for (int t = 0; t < MOST_THINGS; t++) {
                if (t != thing && things.isIn(t) && stack[depth].corners > 0) {
                    things.fillLead(thing, t, line);
                    line[measure] += growth;
                    stack[depth + 1].becomeCut(stack[depth], line);
                    depth++;
                }
            }
            return stack[depth];
        }

        int[][] leadsOf(int thing) {
            for (int t = 0; t < MOST_THINGS; t++) {
                things.fillLead(thing, t, leads[t]);
            }
            return leads;
        }

        /** The first question (a * 8 + b) behind whose worse answer the fewest may be best. */
        int partsMost() {
            fillBehind();
            int found = NONE;
            for (int a = 0; a < MOST_THINGS; a++) {
                for (int b = a + 1; b < MOST_THINGS; b++) {
                    int question = a * MOST_THINGS + b;
                    boolean asked = things.isIn(a) && things.isIn(b);
                    if (asked && (found == NONE || greaterCount(question) < greaterCount(found))) {
                        found = question;
                    }
                }
            }
            return found;
        }

        /** A question's greater count, behind the call that told the question. */
        int greaterCount(int question) {
            if (question < 0 || question >= behind.length) {
                return NONE;
            }
            int a = question / MOST_THINGS;
            int b = question % MOST_THINGS;
            int yes = Integer.bitCount(behind[a * MOST_THINGS + b]);
            int no = Integer.bitCount(behind[b * MOST_THINGS + a]);
            return Math.max(yes, no);
        }

        private void fillBehind() {
            for (int q = 0; q < behind.length; q++) {
                behind[q] = 0;
            }
            for (int t = 0; t < MOST_THINGS; t++) {
                if (things.isIn(t)) {
                    Cone where = whereBest(t, 0, 0);
                    for (int c = 0; c < where.corners; c++) {
                        fillGoods(where, c);
                        markBehind(1 << t);
                    }
                }
            }
        }

        private void markBehind(int bit) {
            for (int a = 0; a < MOST_THINGS; a++) {
                for (int b = 0; b < MOST_THINGS; b++) {
                    if (goods[a] >= goods[b]) {
                        behind[a * MOST_THINGS + b] |= bit;
                    }
                }
            }
        }

        int fewQuestions() {
            if (surelyBest(weights.fit) != 0) {
                return 0;
            }
            if (oneQuestionDoes(weights.fit)) {
                return 1;
            }
            for (int a = 0; a < MOST_THINGS; a++) {
                for (int b = a + 1; b < MOST_THINGS; b++) {
                    boolean asked = things.isIn(a) && things.isIn(b);
                    if (asked && oneMoreDoes(a, b) && oneMoreDoes(b, a)) {
                        return 2;
                    }
                }
            }
            return NONE;
        }

        private boolean oneMoreDoes(int a, int b) {
            things.fillLead(a, b, line);
            weights.stack[0].becomeCut(weights.fit, line);
            return oneQuestionDoes(weights.stack[0]);
        }

        /**
         * Whether one question at most is needed. If any does, leaving t best behind yes and u behind
         * no, then the question about t and u themselves does: only two things are looked at, of
         * which one is best wherever it is not below the other.
         */
        private boolean oneQuestionDoes(Cone cone) {
            for (int c = 0; c < cone.corners; c++) {
                bestAt[c] = bestByCorner(cone, c);
            }
            for (int t = 0; t < MOST_THINGS; t++) {
                for (int u = t + 1; u < MOST_THINGS; u++) {
                    boolean asked = things.isIn(t) && things.isIn(u);
                    if (asked && haveAllCorners(cone, 1 << t | 1 << u)
                            && isBestAhead(cone, t, u) && isBestAhead(cone, u, t)) {
                        return true;
                    }
                }
            }
            return false;
        }

        private boolean haveAllCorners(Cone cone, int set) {
            for (int c = 0; c < cone.corners; c++) {
                if ((bestAt[c] & set) == 0) {
                    return false;
                }
            }
            return true;
        }

        /** Whether t is best by all weights of a cone by which it is not below u. */
        private boolean isBestAhead(Cone cone, int t, int u) {
            things.fillLead(t, u, line);
            for (int other = 0; other < MOST_THINGS; other++) {
                if (things.isIn(other) && other != t && other != u) {
                    things.fillLead(t, other, goal);
                    if (!cone.impliesWith(line, goal)) {
                        return false;
                    }
                }
            }
            return true;
        }

        /** By each corner the lead that lacks must be made up by the growth alone. */
        int needToBeSure(int thing, int measure) {
            long need = 0;
            for (int t = 0; t < MOST_THINGS; t++) {
                if (things.isIn(t)) {
                    things.fillLead(thing, t, line);
                    for (int c = 0; c < weights.fit.corners; c++) {
                        long lead = weights.fit.product(c, line);
                        long weight = weights.fit.weight(c, measure);
                        if (lead < 0 && weight <= 0) {
                            return NONE;
                        }
                        if (lead < 0) {
                            need = Math.max(need, -Math.floorDiv(lead, weight));
                        }
                    }
                }
            }
            return need <= TOP - things.values[thing][measure] ? (int) need : NONE;
        }

        /** What does for a growth does for a greater one: the least is found by halving. */
        int needToMaybe(int thing, int measure) {
            int enough = TOP - things.values[thing][measure];
            if (whereBest(thing, measure, enough).corners == 0) {
                return NONE;
            }
            int low = 0;
            for (int i = 0; i <= TOP && low < enough; i++) {
                int middle = (low + enough) / 2;
                if (whereBest(thing, measure, middle).corners > 0) {
                    enough = middle;
                } else {
                    low = middle + 1;
                }
            }
            return enough;
        }

        /** For an a that is better than b by all: how low its value by a measure may be. */
        int leastStillBetter(int a, int b, int measure) {
            things.fillLead(a, b, line);
            long edge = 0;
            for (int c = 0; c < weights.fit.corners; c++) {
                long weight = weights.fit.weight(c, measure);
                if (weight > 0) {
                    long spare = Math.floorDiv(weights.fit.product(c, line), weight);
                    edge = Math.max(edge, things.values[a][measure] - spare);
                }
            }
            return (int) edge;
        }

        /** The first place up to which things in an order don't fit, or none. */
        int brokenPlace(int[] order, int places) {
            Cone[] stack = weights.stack;
            stack[0].become(weights.fit);
            for (int p = 1; p < places; p++) {
                things.fillLead(order[p - 1], order[p], line);
                stack[p].becomeCut(stack[p - 1], line);
                if (stack[p].corners == 0) {
                    return p;
                }
            }
            return NONE;
        }

        int notOutdone(int n) {
            for (int b = 0; b < MOST_THINGS; b++) {
                outdone[b] = 0;
                for (int a = 0; a < MOST_THINGS; a++) {
                    if (a != b && things.isIn(a) && things.isIn(b) && outdoes(a, b, n)) {
                        outdone[b] |= 1 << a;
                    }
                }
            }
            int found = things.in;
            for (int b = 0; b < MOST_THINGS; b++) {
                for (int a = 0; a < MOST_THINGS; a++) {
                    if ((outdone[b] & 1 << a) != 0 && (outdone[a] & 1 << b) == 0) {
                        found &= ~(1 << b);
                    }
                }
            }
            return found;
        }

        private boolean outdoes(int a, int b, int n) {
            for (int m = 0; m < MOST_MEASURES; m++) {
                boolean counts = things.values[a][m] >= things.values[b][m];
                line[m] = (counts ? TOP : 0) - n;
            }
            return weights.fit.keeps(line);
        }
    }
}
