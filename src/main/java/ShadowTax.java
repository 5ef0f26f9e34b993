import java.util.Arrays;

/** A square of thirty cells, the shadows on it hour by hour, and the tax that is due for them. */
public final class ShadowTax {
    public static final int NONE = -1, BAD = -2, STATE = -3, FULL = -4;
    public static final long NO = -4611686018427387904L;

    private static final int MISSING = -11, OUTSIDE = -12, UNLIKE = -13, BELOW_NOTHING = -14, FAULTY = -100;

    private static final int CELLS = 30, HOURS = 13, NOON = 6, MOST_THINGS = 8;
    private static final int MOST_TEXTS = 6, MOST_BYTES = 160, DEEPEST = 5, MOST_DIGITS = 4;
    private static final int SHEETS = 4, LONGEST_SHEET = 40, MOST_SEEDS = 20, MOST_ASKED = 99999;
    private static final int LONGEST_SHADOW = 29, DEAREST = 9999, MOST_SLANT = 40, MOST_RATE = 40, MOST_SET_OFF = 99;

    // What can be set and told, by the numbers of set() and told().
    private static final int DAY = 0, CLOUDS = 1, NUMBER = 2, HEIGHT = 3, CELL = 4, KIND = 5, HIDES = 6;
    private static final int[] LOWEST = {0, 0, 0, 1, 0, 0};
    private static final int[] HIGHEST = {364, 8191, 9, 20, 29, 5};
    private static final int FIRST_HEIGHT = 5;

    private static final int PERSON = 1, HOUSE = 2, CHILD = 3, CHURCH = 4, THIEF = 5, KINDS = 6;
    private static final int[] ABOVE = {NONE, 0, 0, 1, 2, 0};

    private static final int BYTES = 0, SHORTS = 1, INTS = 2;

    // The parts of a text, and the places of its names in the row of their values.
    private static final int SLANTS = 0, DUES = 1, SETS = 2, PARTS = 3;
    private static final int OF_HOUR = 0, OF_HEIGHT = 1, OF_NUMBER = 2, OF_LONG = 3, OF_DAY = 4, OF_CELL = 5, NAMES = 6;

    // A token is at once the step of a rule that it becomes: a number itself, a name -1 less its place, else one of these.
    private static final int OR = -11, AND = -12, LESS = -13, SAME = -14, PLUS = -15, MINUS = -16, TIMES = -17;
    private static final int NOT = -18, NEGATE = -19, OPEN = -20, CLOSE = -21, SEMICOLON = -22;
    private static final int FIRST_KEY = -23, END = -30, WRONG = -31;

    private static final int OR_LEVEL = 0, AND_LEVEL = 1, NOT_LEVEL = 2, SUM_LEVEL = 3, TERM_LEVEL = 4, ONE_LEVEL = 5;

    private final Square square = new Square();
    private final Reader reader = new Reader();
    private final Image kept = new Image();
    private final Sheet[] sheets = new Sheet[SHEETS];
    private final int[] clear = new int[HOURS];

    public ShadowTax() {
        for (int i = 0; i < sheets.length; i++) {
            sheets[i] = new Sheet();
        }
    }

    // ---- the square, things

    public int set(int what, int of, int v) {
        if (what < DAY || what > CELL || !fits(what, v)) {
            return BAD;
        }
        if (what >= NUMBER && !square.has(of)) {
            return BAD;
        }
        int was = square.tell(what, of);
        square.put(what, of, v);
        return was;
    }

    public int thing(int kind, int number, int on) {
        if (!fits(KIND, kind) || !fits(NUMBER, number) || !fits(CELL, on)) {
            return BAD;
        }
        return square.come(kind, number, on);
    }

    public int told(int of, int what) {
        if (what < DAY || what > HIDES) {
            return BAD;
        }
        if (what >= NUMBER && !square.has(of)) {
            return BAD;
        }
        return square.tell(what, of);
    }

    // ---- texts

    public int feed(int letter) {
        if (letter < 0 || letter > 255) {
            return BAD;
        }
        return reader.take(letter);
    }

    public int text() {
        if (square.made >= square.texts.length) {
            return FULL;
        }
        int fault = reader.readInto(square.texts[square.made]);
        if (fault != NONE) {
            return FAULTY - fault;
        }
        square.made++;
        return square.made - 1;
    }

    public int force(int text) {
        if (text < 0 || text >= square.made) {
            return BAD;
        }
        int was = square.ruling;
        square.ruling = text;
        return was;
    }

    // ---- hour by hour

    public int hour(int thing, int hour, int what) {
        if (!square.has(thing) || !isHour(hour) || what < 0 || what > 2) {
            return BAD;
        }
        square.look(hour);
        if (what == 0) {
            return square.longs[thing];
        }
        if (what == 1) {
            return square.hidden >> thing & 1;
        }
        return square.dueOf(thing);
    }

    public int takes(int hour) {
        if (hour == NONE) {
            return square.dueOfDay();
        }
        if (!isHour(hour)) {
            return BAD;
        }
        square.look(hour);
        return square.dueOfAll();
    }

    public int dark(int hour) {
        if (!isHour(hour)) {
            return BAD;
        }
        square.look(hour);
        return square.shadowed;
    }

    public int hours(int what) {
        if (what < 0 || what > 3) {
            return BAD;
        }
        return what < 2 ? mostHour(what == 0) : fairestHour(what == 2);
    }

    private int mostHour(boolean which) {
        int first = 0;
        int most = NONE;
        for (int hour = 0; hour < HOURS; hour++) {
            square.look(hour);
            int due = square.dueOfAll();
            if (due > most) {
                most = due;
                first = hour;
            }
        }
        return which ? first : most;
    }

    private int fairestHour(boolean which) {
        int first = NONE;
        int least = NONE;
        for (int hour = 0; hour < HOURS; hour++) {
            square.look(hour);
            if (square.dueOfAll() == 0) {
                continue;
            }
            int apart = square.apart();
            if (first == NONE || apart < least) {
                least = apart;
                first = hour;
            }
        }
        return which ? first : least;
    }

    // ---- what would be best

    public int best(int thing, int hour, int what) {
        if (!square.has(thing) || !isHour(hour) || what < 0 || what > 1) {
            return BAD;
        }
        return square.leastByCell(thing, hour, false, what == 0);
    }

    public int place(int thing, int hour, int what) {
        if (!square.has(thing) || !isHour(hour) || what < 0 || what > 1) {
            return BAD;
        }
        return square.leastByCell(thing, hour, true, what == 0);
    }

    public int shade(int thing, int hour, int what) {
        if (!square.has(thing) || !isHour(hour) || what < 0 || what > 1) {
            return BAD;
        }
        square.look(hour);
        int most = square.dueOf(thing);
        int first = NONE;
        for (int other = 0; other < square.many; other++) {
            if (other == thing) {
                continue;
            }
            square.castWithout(other, hour);
            int due = square.dueOf(thing);
            if (due > most) {
                most = due;
                first = other;
            }
        }
        return what == 0 ? first : most;
    }

    public int send(int hour, int what) {
        if (!isHour(hour) || what < 0 || what > 1) {
            return BAD;
        }
        square.look(hour);
        int all = square.dueOfAll();
        int hiddenNow = square.hidden;
        int most = 0;
        int first = NONE;
        for (int one = 0; one < square.many; one++) {
            int own = (hiddenNow >> one & 1) == 1 ? 0 : square.dues[one];
            square.castWithout(one, hour);
            int less = all - own - square.dueOfAll();
            if (less > most) {
                most = less;
                first = one;
            }
        }
        return what == 0 ? first : most;
    }

    // ---- dues that were told

    public int tells(int sheet, int thing, int what) {
        if (!isSheet(sheet) || !square.has(thing) || what < 0 || what > 6) {
            return BAD;
        }
        Sheet dues = sheets[sheet];
        if (dues.isMissing()) {
            return MISSING;
        }
        if (dues.size != HOURS) {
            return BAD;
        }
        switch (what) {
            case 0:
                return firstOtherwise(dues, thing);
            case 1:
                return square.fitting(KIND, thing, dues);
            case 5:
                return fittingClouds(dues, thing);
            case 6:
                return square.fittingTexts(thing, dues);
            default:
                return square.fitting(what, thing, dues);
        }
    }

    private int firstOtherwise(Sheet dues, int thing) {
        for (int hour = 0; hour < HOURS; hour++) {
            square.look(hour);
            if (square.dueOf(thing) != dues.at(hour)) {
                return hour;
            }
        }
        return NONE;
    }

    private int fittingClouds(Sheet dues, int thing) {
        int mustBeCloudy = 0;
        int mustBeClear = 0;
        int was = square.clouds;
        square.clouds = 0;
        for (int hour = 0; hour < HOURS; hour++) {
            square.look(hour);
            if (square.dueOf(thing) != dues.at(hour)) {
                mustBeCloudy |= 1 << hour;
            }
            if (dues.at(hour) != 0) {
                mustBeClear |= 1 << hour;
            }
        }
        square.clouds = was;
        int many = mustBeCloudy == 0 ? 1 : 0;
        for (int one = 0; one < HOURS; one++) {
            for (int other = one; other < HOURS; other++) {
                int cloudy = 1 << one | 1 << other;
                if ((mustBeCloudy & ~cloudy) == 0 && (mustBeClear & cloudy) == 0) {
                    many++;
                }
            }
        }
        return many;
    }

    public int film(int sheet, int thing) {
        if (!isSheet(sheet) || !square.has(thing)) {
            return BAD;
        }
        Sheet dues = sheets[sheet];
        dues.become(INTS, HOURS);
        for (int hour = 0; hour < HOURS; hour++) {
            square.look(hour);
            dues.write(hour, square.dueOf(thing));
        }
        return HOURS;
    }

    public int drawn(int seed) {
        lookWithoutClouds();
        return dueBySeed(seed);
    }

    public long chance(int seed, int n, int k, int part) {
        if (n < 1 || n > MOST_SEEDS || k < 0 || k > MOST_ASKED || part < 0 || part > 1) {
            return NO;
        }
        lookWithoutClouds();
        int above = 0;
        for (int i = 0; i < n; i++) {
            if (dueBySeed(seed + i) >= k) {
                above++;
            }
        }
        int common = commonDivisor(above, n);
        if (common < 1) {
            return NO;
        }
        return part == 0 ? above / common : n / common;
    }

    /** What a cloudless hour takes does not hang on the seed, so it is told once for all of them. */
    private void lookWithoutClouds() {
        int was = square.clouds;
        square.clouds = 0;
        for (int hour = 0; hour < HOURS; hour++) {
            square.look(hour);
            clear[hour] = square.dueOfAll();
        }
        square.clouds = was;
    }

    private int dueBySeed(int seed) {
        int z = seed;
        int due = 0;
        for (int hour = 0; hour < HOURS; hour++) {
            z = z * 1103515245 + 12345;
            if ((z >>> 9) % 3 != 0) {
                due += clear[hour];
            }
        }
        return due;
    }

    private static int commonDivisor(int a, int b) {
        int large = b;
        int small = a;
        for (int step = 0; step < MOST_SEEDS && small > 0; step++) {
            int rest = large % small;
            large = small;
            small = rest;
        }
        return large;
    }

    public int image() {
        kept.keep(square);
        return square.many;
    }

    public int back() {
        if (!kept.any) {
            return STATE;
        }
        kept.layBack(square);
        return square.many;
    }

    public int count(int what) {
        switch (what) {
            case 0:
                return square.many;
            case 1:
                return Integer.bitCount(square.clouds);
            case 2:
                return square.made;
            case 3:
                return reader.size;
            case 4:
                return square.ruling;
            default:
                return BAD;
        }
    }

    // ---- the host

    public int sheet(int sheet, int sort, int n) {
        if (!isSheet(sheet) || sort < NONE || sort > INTS) {
            return BAD;
        }
        if (sort == NONE) {
            sheets[sheet].become(NONE, 0);
            return 1;
        }
        if (n > LONGEST_SHEET) {
            return BAD;
        }
        if (n < 0) {
            return BELOW_NOTHING;
        }
        sheets[sheet].become(sort, n);
        return 1;
    }

    public int cell(int sheet, int i, int v) {
        if (!isSheet(sheet)) {
            return BAD;
        }
        Sheet row = sheets[sheet];
        if (row.isMissing()) {
            return MISSING;
        }
        if (!row.holds(i, 1)) {
            return OUTSIDE;
        }
        row.write(i, v);
        return 1;
    }

    public int copy(int sheet, int i, int other, int j, int n) {
        if (!isSheet(sheet) || !isSheet(other)) {
            return BAD;
        }
        Sheet from = sheets[sheet];
        Sheet to = sheets[other];
        if (from.isMissing() || to.isMissing()) {
            return MISSING;
        }
        if (from.sort != to.sort) {
            return UNLIKE;
        }
        if (!from.holds(i, n) || !to.holds(j, n)) {
            return OUTSIDE;
        }
        System.arraycopy(from.numbers, i, to.numbers, j, n);
        return n;
    }

    public int things(int sheet, int sort, int from, int n) {
        if (!isSheet(sheet) || sort < BYTES || sort > INTS || n < 0 || n > MOST_THINGS) {
            return BAD;
        }
        Sheet row = sheets[sheet];
        if (row.isMissing()) {
            return MISSING;
        }
        if (row.sort != sort) {
            return UNLIKE;
        }
        int came = 0;
        for (int k = 0; k < n; k++) {
            int at = from + 3 * k;
            if (!row.holds(at, 3)) {
                return OUTSIDE;
            }
            if (thing(row.at(at), row.at(at + 1), row.at(at + 2)) >= 0) {
                came++;
            }
        }
        return came;
    }

    public int taken(int thing, int k) {
        if (k < 0 || k >= KINDS) {
            return BAD;
        }
        if (!square.has(thing)) {
            return MISSING;
        }
        Thing one = square.things[thing];
        return one.isUnder(k) ? one.number : UNLIKE;
    }

    private static boolean fits(int what, int v) {
        return what >= 0 && what < LOWEST.length && v >= LOWEST[what] && v <= HIGHEST[what];
    }

    private static boolean isHour(int hour) {
        return hour >= 0 && hour < HOURS;
    }

    private boolean isSheet(int sheet) {
        return sheet >= 0 && sheet < sheets.length;
    }

    private static int bounded(int v, int highest) {
        return Math.max(0, Math.min(v, highest));
    }

    /** Bits from one place to ahead of another. */
    private static int bits(int from, int to) {
        return (1 << to) - (1 << from);
    }

    private static final class Thing {
        int kind;
        int number;
        int height;
        int on;

        int read(int what) {
            switch (what) {
                case NUMBER:
                    return number;
                case HEIGHT:
                    return height;
                case CELL:
                    return on;
                case KIND:
                    return kind;
                default:
                    return hides() ? 1 : 0;
            }
        }

        void write(int what, int v) {
            switch (what) {
                case NUMBER:
                    number = v;
                    break;
                case HEIGHT:
                    height = v;
                    break;
                case CELL:
                    on = v;
                    break;
                case KIND:
                    kind = v;
                    break;
                default:
                    break;
            }
        }

        int reach(int slant) {
            int plain = height * slant / 4;
            int length;
            switch (kind) {
                case PERSON:
                    length = plain - number % 3;
                    break;
                case HOUSE:
                    length = plain + 2;
                    break;
                case CHILD:
                    length = (plain - number % 3) / 2;
                    break;
                case CHURCH:
                    length = 2 * (plain + 2);
                    break;
                case THIEF:
                    length = 0;
                    break;
                default:
                    length = plain;
                    break;
            }
            return bounded(length, LONGEST_SHADOW);
        }

        int owed(int length, int rate) {
            int plain = length * rate;
            int due;
            switch (kind) {
                case PERSON:
                    due = Math.min(plain, number);
                    break;
                case HOUSE:
                    due = 2 * plain;
                    break;
                case CHILD:
                    due = length < 4 ? 0 : Math.min(plain, number);
                    break;
                case CHURCH:
                    due = 2 * plain - number;
                    break;
                case THIEF:
                    due = rate;
                    break;
                default:
                    due = plain;
                    break;
            }
            return bounded(due, DEAREST);
        }

        boolean hides() {
            return kind != CHILD;
        }

        boolean isUnder(int above) {
            int up = kind;
            for (int step = 0; step < KINDS && up >= 0 && up < ABOVE.length; step++) {
                if (up == above) {
                    return true;
                }
                up = ABOVE[up];
            }
            return false;
        }
    }

    private static final class Square {
        final Thing[] things = new Thing[MOST_THINGS];
        final Rule[] texts = new Rule[MOST_TEXTS];
        int many;
        int made;
        int ruling;
        int day;
        int clouds;

        // What the last look at an hour told; a thing's due stands there as if it were not hidden.
        final int[] longs = new int[MOST_THINGS];
        final int[] dues = new int[MOST_THINGS];
        int hidden;
        int shadowed;

        private int away = NONE;
        private final int[] values = new int[NAMES];
        private final int[] stack = new int[MOST_BYTES];

        Square() {
            for (int i = 0; i < things.length; i++) {
                things[i] = new Thing();
            }
            for (int i = 0; i < texts.length; i++) {
                texts[i] = new Rule();
            }
            texts[0].beFirst();
            made = 1;
        }

        boolean has(int thing) {
            return thing >= 0 && thing < many && thing < things.length;
        }

        int come(int kind, int number, int on) {
            if (many >= things.length) {
                return FULL;
            }
            Thing one = things[many];
            one.kind = kind;
            one.number = number;
            one.height = FIRST_HEIGHT;
            one.on = on;
            many++;
            return many - 1;
        }

        int tell(int what, int of) {
            if (what == DAY) {
                return day;
            }
            if (what == CLOUDS) {
                return clouds;
            }
            return has(of) ? things[of].read(what) : BAD;
        }

        void put(int what, int of, int v) {
            if (what == DAY) {
                day = v;
            } else if (what == CLOUDS) {
                clouds = v;
            } else if (has(of)) {
                things[of].write(what, v);
            }
        }

        void look(int hour) {
            for (int i = 0; i < many; i++) {
                measure(i, hour);
            }
            cast(hour);
        }

        private void measure(int i, int hour) {
            longs[i] = 0;
            dues[i] = 0;
            if (hour == NOON || (clouds >> hour & 1) == 1) {
                return;
            }
            Thing one = things[i];
            values[OF_HOUR] = hour;
            values[OF_HEIGHT] = one.height;
            values[OF_NUMBER] = one.number;
            values[OF_LONG] = 0;
            values[OF_DAY] = day;
            values[OF_CELL] = one.on;
            longs[i] = one.reach(ruled(SLANTS, MOST_SLANT));
            values[OF_LONG] = longs[i];
            int owed = one.owed(longs[i], ruled(DUES, MOST_RATE));
            dues[i] = Math.max(0, owed - ruled(SETS, MOST_SET_OFF));
        }

        private int ruled(int part, int highest) {
            return bounded(texts[ruling].value(part, values, stack), highest);
        }

        /** Goes from the side of the sun on, as whoever is hidden hides nobody behind. */
        private void cast(int hour) {
            hidden = 0;
            shadowed = 0;
            int hiding = 0;
            int stoodOn = occupied();
            boolean morning = hour < NOON;
            for (int k = 0; k < CELLS; k++) {
                int at = morning ? CELLS - 1 - k : k;
                if ((stoodOn >> at & 1) == 0) {
                    continue;
                }
                boolean covered = (hiding >> at & 1) == 1;
                for (int i = 0; i < many; i++) {
                    if (i == away || things[i].on != at) {
                        continue;
                    }
                    if (covered) {
                        hidden |= 1 << i;
                        continue;
                    }
                    int shadow = shadowOf(i, morning);
                    shadowed |= shadow;
                    if (things[i].hides()) {
                        hiding |= shadow;
                    }
                }
            }
        }

        private int occupied() {
            int stoodOn = 0;
            for (int i = 0; i < many; i++) {
                stoodOn |= 1 << things[i].on;
            }
            return stoodOn;
        }

        private int shadowOf(int i, boolean morning) {
            int on = things[i].on;
            if (morning) {
                return bits(Math.max(0, on - longs[i]), on);
            }
            return bits(on + 1, Math.min(CELLS, on + 1 + longs[i]));
        }

        /** Whoever is nowhere counts as hidden, so that its due falls away with it. */
        void castWithout(int one, int hour) {
            away = one;
            cast(hour);
            hidden |= 1 << one;
            away = NONE;
        }

        int dueOf(int i) {
            return (hidden >> i & 1) == 1 ? 0 : dues[i];
        }

        int dueOfAll() {
            int due = 0;
            for (int i = 0; i < many; i++) {
                due += dueOf(i);
            }
            return due;
        }

        int dueOfDay() {
            int due = 0;
            for (int hour = 0; hour < HOURS; hour++) {
                look(hour);
                due += dueOfAll();
            }
            return due;
        }

        int apart() {
            int most = 0;
            int least = DEAREST;
            for (int i = 0; i < many; i++) {
                most = Math.max(most, dueOf(i));
                least = Math.min(least, dueOf(i));
            }
            return most - least;
        }

        int leastByCell(int thing, int hour, boolean ofAll, boolean which) {
            Thing one = things[thing];
            int was = one.on;
            int first = NONE;
            int least = 0;
            look(hour);
            for (int at = 0; at < CELLS; at++) {
                one.on = at;
                measure(thing, hour);
                cast(hour);
                int due = ofAll ? dueOfAll() : dueOf(thing);
                if (first == NONE || due < least) {
                    least = due;
                    first = at;
                }
            }
            one.on = was;
            return which ? first : least;
        }

        int fitting(int what, int thing, Sheet told) {
            Thing one = things[thing];
            int was = one.read(what);
            int fit = bits(LOWEST[what], HIGHEST[what] + 1);
            for (int hour = 0; hour < HOURS && fit != 0; hour++) {
                look(hour);
                for (int v = LOWEST[what]; v <= HIGHEST[what]; v++) {
                    if ((fit >> v & 1) == 0) {
                        continue;
                    }
                    one.write(what, v);
                    measure(thing, hour);
                    cast(hour);
                    if (dueOf(thing) != told.at(hour)) {
                        fit &= ~(1 << v);
                    }
                }
            }
            one.write(what, was);
            return fit;
        }

        int fittingTexts(int thing, Sheet told) {
            int was = ruling;
            int fit = 0;
            for (int text = 0; text < made; text++) {
                ruling = text;
                boolean so = true;
                for (int hour = 0; hour < HOURS && so; hour++) {
                    look(hour);
                    so = dueOf(thing) == told.at(hour);
                }
                if (so) {
                    fit |= 1 << text;
                }
            }
            ruling = was;
            return fit;
        }
    }

    /** A text as steps that a stack works off, so that telling its value takes no recursion. */
    private static final class Rule {
        private final int[] steps = new int[MOST_BYTES];
        private final int[] ends = new int[PARTS];
        private int size;
        private int parts;

        void empty() {
            size = 0;
            parts = 0;
        }

        void add(int step) {
            if (size < steps.length) {
                steps[size] = step;
                size++;
            }
        }

        void endPart() {
            if (parts < ends.length) {
                ends[parts] = size;
                parts++;
            }
        }

        void beFirst() {
            empty();
            add(4);
            endPart();
            add(2);
            endPart();
            add(0);
            endPart();
        }

        int value(int part, int[] values, int[] stack) {
            int top = 0;
            int from = part == SLANTS ? 0 : ends[part - 1];
            for (int k = from; k < ends[part]; k++) {
                int step = steps[k];
                if (step >= -NAMES) {
                    if (top < stack.length) {
                        stack[top] = step >= 0 ? step : values[-1 - step];
                        top++;
                    }
                } else if (step == NOT || step == NEGATE) {
                    if (top >= 1) {
                        stack[top - 1] = alone(step, stack[top - 1]);
                    }
                } else if (top >= 2) {
                    top--;
                    stack[top - 1] = joined(step, stack[top - 1], stack[top]);
                }
            }
            return top > 0 ? stack[0] : 0;
        }

        private static int alone(int step, int a) {
            if (step == NEGATE) {
                return -a;
            }
            return a == 0 ? 1 : 0;
        }

        private static int joined(int step, int a, int b) {
            switch (step) {
                case OR:
                    return a != 0 || b != 0 ? 1 : 0;
                case AND:
                    return a != 0 && b != 0 ? 1 : 0;
                case LESS:
                    return a < b ? 1 : 0;
                case SAME:
                    return a == b ? 1 : 0;
                case PLUS:
                    return a + b;
                case MINUS:
                    return a - b;
                default:
                    return a * b;
            }
        }
    }

    private static final class Reader {
        int size;
        private final int[] tape = new int[MOST_BYTES];
        private int next;
        private int begin;
        private int token;
        private int fault;
        private Rule rule;

        int take(int letter) {
            if (size >= tape.length) {
                return FULL;
            }
            tape[size] = letter;
            size++;
            return size;
        }

        /** Answers the place of the fault, or NONE; the tape is empty behind it. */
        int readInto(Rule made) {
            rule = made;
            rule.empty();
            next = 0;
            fault = NONE;
            advance();
            for (int part = SLANTS; part < PARTS; part++) {
                expect(FIRST_KEY - part);
                readLevel(OR_LEVEL, 0);
                expect(SEMICOLON);
                rule.endPart();
            }
            expect(END);
            size = 0;
            return fault;
        }

        /** No rule takes WRONG for its own, so that behind the first fault nothing more is read. */
        private void fail() {
            if (fault == NONE) {
                fault = begin;
            }
            token = WRONG;
        }

        private void expect(int due) {
            if (token == due) {
                advance();
            } else {
                fail();
            }
        }

        private void readLevel(int level, int open) {
            if (level >= ONE_LEVEL) {
                readOne(open);
                return;
            }
            if (level == NOT_LEVEL && token == NOT) {
                readBehind(NOT, NOT_LEVEL, open);
                return;
            }
            readLevel(level + 1, open);
            int most = level == NOT_LEVEL ? 1 : MOST_BYTES;
            for (int n = 0; n < most && levelOf(token) == level; n++) {
                int sign = token;
                advance();
                readLevel(level + 1, open);
                rule.add(sign);
            }
        }

        private void readOne(int open) {
            if (token >= -NAMES) {
                rule.add(token);
                advance();
            } else if (token == MINUS) {
                readBehind(NEGATE, ONE_LEVEL, open);
            } else if (token == OPEN && open < DEEPEST) {
                advance();
                readLevel(OR_LEVEL, open + 1);
                expect(CLOSE);
            } else {
                fail();
            }
        }

        private void readBehind(int step, int level, int open) {
            if (open >= DEEPEST) {
                fail();
                return;
            }
            advance();
            readLevel(level, open + 1);
            rule.add(step);
        }

        private static int levelOf(int sign) {
            switch (sign) {
                case OR:
                    return OR_LEVEL;
                case AND:
                    return AND_LEVEL;
                case LESS:
                case SAME:
                    return NOT_LEVEL;
                case PLUS:
                case MINUS:
                    return SUM_LEVEL;
                case TIMES:
                    return TERM_LEVEL;
                default:
                    return NONE;
            }
        }

        private void advance() {
            while (next < size && (tape[next] == ' ' || tape[next] == '\n')) {
                next++;
            }
            begin = next;
            if (next >= size) {
                token = END;
            } else if (isLetter(tape[next])) {
                token = readWord();
            } else if (isDigit(tape[next])) {
                token = readNumber();
            } else {
                token = signOf(tape[next]);
                next++;
            }
        }

        private int readNumber() {
            int number = 0;
            while (next < size && isDigit(tape[next])) {
                number = number * 10 + tape[next] - '0';
                next++;
            }
            return next - begin > MOST_DIGITS ? WRONG : number;
        }

        private int readWord() {
            while (next < size && isLetter(tape[next])) {
                next++;
            }
            if (isWord("hour")) {
                return -1 - OF_HOUR;
            }
            if (isWord("height")) {
                return -1 - OF_HEIGHT;
            }
            if (isWord("number")) {
                return -1 - OF_NUMBER;
            }
            if (isWord("long")) {
                return -1 - OF_LONG;
            }
            if (isWord("day")) {
                return -1 - OF_DAY;
            }
            if (isWord("cell")) {
                return -1 - OF_CELL;
            }
            if (isWord("slants")) {
                return FIRST_KEY - SLANTS;
            }
            if (isWord("dues")) {
                return FIRST_KEY - DUES;
            }
            if (isWord("sets")) {
                return FIRST_KEY - SETS;
            }
            if (isWord("or")) {
                return OR;
            }
            if (isWord("and")) {
                return AND;
            }
            return isWord("not") ? NOT : WRONG;
        }

        private boolean isWord(String word) {
            if (word.length() != next - begin) {
                return false;
            }
            for (int i = 0; i < word.length(); i++) {
                if (word.charAt(i) != tape[begin + i]) {
                    return false;
                }
            }
            return true;
        }

        private static int signOf(int letter) {
            switch (letter) {
                case '(':
                    return OPEN;
                case ')':
                    return CLOSE;
                case ';':
                    return SEMICOLON;
                case '+':
                    return PLUS;
                case '-':
                    return MINUS;
                case '*':
                    return TIMES;
                case '<':
                    return LESS;
                case '=':
                    return SAME;
                default:
                    return WRONG;
            }
        }

        private static boolean isLetter(int letter) {
            return letter >= 'a' && letter <= 'z';
        }

        private static boolean isDigit(int letter) {
            return letter >= '0' && letter <= '9';
        }
    }

    private static final class Sheet {
        final int[] numbers = new int[LONGEST_SHEET];
        int sort = NONE;
        int size;

        boolean isMissing() {
            return sort == NONE;
        }

        void become(int newSort, int newSize) {
            sort = newSort;
            size = newSize;
            Arrays.fill(numbers, 0);
        }

        /** Written so that no sum can wrap. */
        boolean holds(int i, int n) {
            return i >= 0 && n >= 0 && i <= size && n <= size - i;
        }

        int at(int i) {
            return i >= 0 && i < size ? numbers[i] : 0;
        }

        void write(int i, int v) {
            if (i < 0 || i >= size) {
                return;
            }
            if (sort == BYTES) {
                numbers[i] = (byte) v;
            } else if (sort == SHORTS) {
                numbers[i] = (short) v;
            } else {
                numbers[i] = v;
            }
        }
    }

    private static final class Image {
        boolean any;
        private int many;
        private int ruling;
        private int day;
        private int clouds;
        private final int[] numbers = new int[MOST_THINGS];
        private final int[] heights = new int[MOST_THINGS];
        private final int[] cells = new int[MOST_THINGS];

        void keep(Square square) {
            any = true;
            many = square.many;
            ruling = square.ruling;
            day = square.day;
            clouds = square.clouds;
            for (int i = 0; i < many; i++) {
                Thing one = square.things[i];
                numbers[i] = one.number;
                heights[i] = one.height;
                cells[i] = one.on;
            }
        }

        void layBack(Square square) {
            square.many = many;
            square.ruling = ruling;
            square.day = day;
            square.clouds = clouds;
            for (int i = 0; i < many; i++) {
                Thing one = square.things[i];
                one.number = numbers[i];
                one.height = heights[i];
                one.on = cells[i];
            }
        }
    }
}
