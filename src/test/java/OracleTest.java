import java.util.ArrayDeque;
import java.util.ArrayList;
import java.util.Arrays;
import java.util.Deque;
import java.util.List;
import java.util.Random;

/**
 * Long runs of calls, drawn from fixed seeds, whose answers are held against a second telling of the document.
 * The second telling is slow on purpose and goes other ways: faults by a machine with a heap of open signs,
 * values by splitting a text at its loosest sign, hiding by asking backwards, what-ifs on whole copies.
 */
public final class OracleTest {
    private static final int RUNS = 1200, CALLS = 512;
    private static int wrong = 0;

    public static void main(String[] args) {
        for (int run = 0; run < RUNS && wrong < 20; run++) {
            new Run(run).go();
        }
        System.out.println(wrong == 0 ? "all runs are as the second telling" : wrong + " runs are otherwise");
        if (wrong != 0) {
            System.exit(1);
        }
    }

    // ---- the second telling

    private record Token(String text, int place) { }

    private static final List<String> NAMES = List.of("hour", "height", "number", "long", "day", "cell");
    private static final List<String> KEYS = List.of("slants", "dues", "sets", "or", "and", "not");

    /** Tokens up to the first that is none (which stands there as "?"), then "" at the end. */
    private static List<Token> tokens(String tape) {
        List<Token> out = new ArrayList<>();
        int i = 0;
        while (i < tape.length()) {
            char c = tape.charAt(i);
            int j = i + 1;
            String text;
            if (c == ' ' || c == '\n') {
                i++;
                continue;
            } else if (c >= 'a' && c <= 'z') {
                while (j < tape.length() && tape.charAt(j) >= 'a' && tape.charAt(j) <= 'z') j++;
                text = tape.substring(i, j);
                if (!NAMES.contains(text) && !KEYS.contains(text)) text = "?";
            } else if (c >= '0' && c <= '9') {
                while (j < tape.length() && tape.charAt(j) >= '0' && tape.charAt(j) <= '9') j++;
                text = j - i > 4 ? "?" : tape.substring(i, j);
            } else {
                text = "();+-*<=".indexOf(c) >= 0 ? "" + c : "?";
            }
            out.add(new Token(text, i));
            i = j;
        }
        out.add(new Token("", tape.length()));
        return out;
    }

    private static boolean isOperand(String t) {
        return NAMES.contains(t) || !t.isEmpty() && Character.isDigit(t.charAt(0));
    }

    /** The place of the fault, or -1. */
    private static int faultOf(String tape) {
        List<Token> all = tokens(tape);
        int at = 0;
        for (String key : List.of("slants", "dues", "sets")) {
            if (!all.get(at).text.equals(key)) return all.get(at).place;
            at++;
            Deque<String> open = new ArrayDeque<>();
            Deque<Boolean> compared = new ArrayDeque<>();
            compared.push(false);
            boolean wantsOne = true;
            boolean notMay = true;
            boolean over = false;
            while (!over) {
                String t = all.get(at).text;
                int place = all.get(at).place;
                at++;
                if (wantsOne) {
                    if (isOperand(t)) {
                        wantsOne = false;
                    } else if (t.equals("(") || t.equals("-") || t.equals("not") && notMay) {
                        if (open.size() >= 5) return place;
                        open.push(t);
                        if (t.equals("(")) compared.push(false);
                        notMay = !t.equals("-");
                        continue;
                    } else {
                        return place;
                    }
                } else {
                    switch (t) {
                        case "*", "+", "-" -> {
                            wantsOne = true;
                            notMay = false;
                        }
                        case "<", "=" -> {
                            if (compared.pop()) return place;
                            compared.push(true);
                            wantsOne = true;
                            notMay = false;
                        }
                        case "and", "or" -> {
                            while ("not".equals(open.peek())) open.pop();
                            compared.pop();
                            compared.push(false);
                            wantsOne = true;
                            notMay = true;
                        }
                        case ")" -> {
                            while ("not".equals(open.peek())) open.pop();
                            if (!"(".equals(open.peek())) return place;
                            open.pop();
                            compared.pop();
                        }
                        case ";" -> {
                            while ("not".equals(open.peek())) open.pop();
                            if (!open.isEmpty()) return place;
                            over = true;
                        }
                        default -> {
                            return place;
                        }
                    }
                }
                if (!wantsOne) {
                    while ("-".equals(open.peek())) open.pop();
                }
            }
        }
        return all.get(at).text.isEmpty() ? -1 : all.get(at).place;
    }

    private static final class Tree {
        String sign;
        Tree a, b;

        int value(int[] of) {
            if (a == null) {
                return NAMES.contains(sign) ? of[NAMES.indexOf(sign)] : Integer.parseInt(sign);
            }
            int x = a.value(of);
            int y = b == null ? 0 : b.value(of);
            return switch (sign) {
                case "or" -> x != 0 || y != 0 ? 1 : 0;
                case "and" -> x != 0 && y != 0 ? 1 : 0;
                case "not" -> x == 0 ? 1 : 0;
                case "<" -> x < y ? 1 : 0;
                case "=" -> x == y ? 1 : 0;
                case "+" -> x + y;
                case "*" -> x * y;
                default -> b == null ? -x : x - y;
            };
        }
    }

    private static int lastOf(List<String> e, String... signs) {
        int depth = 0;
        for (int i = e.size() - 1; i > 0; i--) {
            String t = e.get(i);
            if (t.equals(")")) depth++;
            if (t.equals("(")) depth--;
            boolean behindOne = isOperand(e.get(i - 1)) || e.get(i - 1).equals(")");
            if (depth == 0 && behindOne && Arrays.asList(signs).contains(t)) return i;
        }
        return -1;
    }

    private static Tree tree(List<String> e) {
        Tree t = new Tree();
        int at = lastOf(e, "or");
        if (at < 0) at = lastOf(e, "and");
        if (at < 0 && e.get(0).equals("not")) {
            t.sign = "not";
            t.a = tree(e.subList(1, e.size()));
            return t;
        }
        if (at < 0) at = lastOf(e, "<", "=");
        if (at < 0) at = lastOf(e, "+", "-");
        if (at < 0) at = lastOf(e, "*");
        if (at >= 0) {
            t.sign = e.get(at);
            t.a = tree(e.subList(0, at));
            t.b = tree(e.subList(at + 1, e.size()));
        } else if (e.get(0).equals("-")) {
            t.sign = "-";
            t.a = tree(e.subList(1, e.size()));
        } else if (e.get(0).equals("(")) {
            return tree(e.subList(1, e.size() - 1));
        } else {
            t.sign = e.get(0);
        }
        return t;
    }

    /** The three trees of a text without a fault. */
    private static Tree[] trees(String tape) {
        Tree[] out = new Tree[3];
        List<String> e = new ArrayList<>();
        int part = 0;
        for (Token token : tokens(tape)) {
            if (token.text.equals(";")) {
                out[part] = tree(e.subList(1, e.size()));
                part++;
                e = new ArrayList<>();
            } else if (!token.text.isEmpty()) {
                e.add(token.text);
            }
        }
        return out;
    }

    private static final String[] KIND = {"THING", "PERSON", "HOUSE", "CHILD", "CHURCH", "THIEF"};
    private static final String[] UNDER = {"", "THING", "THING", "PERSON", "HOUSE", "THING"};

    private static int lengthAs(String kind, int h, int number, int v) {
        return switch (kind) {
            case "THING" -> h * v / 4;
            case "PERSON" -> lengthAs("THING", h, number, v) - number % 3;
            case "HOUSE" -> lengthAs("THING", h, number, v) + 2;
            case "CHILD" -> lengthAs("PERSON", h, number, v) / 2;
            case "CHURCH" -> lengthAs("HOUSE", h, number, v) * 2;
            default -> 0;
        };
    }

    private static int owesAs(String kind, int n, int number, int v) {
        return switch (kind) {
            case "THING" -> n * v;
            case "PERSON" -> Math.min(owesAs("THING", n, number, v), number);
            case "HOUSE" -> 2 * owesAs("THING", n, number, v);
            case "CHILD" -> n < 4 ? 0 : owesAs("PERSON", n, number, v);
            case "CHURCH" -> owesAs("HOUSE", n, number, v) - number;
            default -> v;
        };
    }

    private static int clamp(int v, int most) {
        return v < 0 ? 0 : v > most ? most : v;
    }

    private static final class Square {
        int day, clouds, rule;
        List<int[]> things = new ArrayList<>(); // kind, number, height, cell
        List<Tree[]> texts = new ArrayList<>();

        Square copyOf() {
            Square s = new Square();
            s.day = day;
            s.clouds = clouds;
            s.rule = rule;
            for (int[] t : things) s.things.add(t == null ? null : t.clone());
            s.texts = texts;
            return s;
        }

        boolean sunny(int hour) {
            return hour != 6 && (clouds & 1 << hour) == 0;
        }

        int ruled(int part, int[] t, int hour, int length, int most) {
            return clamp(texts.get(rule)[part].value(new int[] {hour, t[2], t[1], length, day, t[3]}), most);
        }

        int length(int i, int hour) {
            if (!sunny(hour)) return 0;
            int[] t = things.get(i);
            return clamp(lengthAs(KIND[t[0]], t[2], t[1], ruled(0, t, hour, 0, 40)), 29);
        }

        boolean covers(int i, int hour, int cell) {
            int on = things.get(i)[3];
            int far = hour < 6 ? on - cell : cell - on;
            return far >= 1 && far <= length(i, hour);
        }

        boolean hidden(int i, int hour) {
            for (int j = 0; j < things.size(); j++) {
                if (j != i && things.get(j) != null && things.get(j)[0] != 3
                        && covers(j, hour, things.get(i)[3]) && !hidden(j, hour)) {
                    return true;
                }
            }
            return false;
        }

        int due(int i, int hour) {
            if (things.get(i) == null || !sunny(hour) || hidden(i, hour)) return 0;
            int[] t = things.get(i);
            int n = length(i, hour);
            int owes = clamp(owesAs(KIND[t[0]], n, t[1], ruled(1, t, hour, n, 40)), 9999);
            return Math.max(0, owes - ruled(2, t, hour, n, 99));
        }

        int takes(int hour) {
            int sum = 0;
            for (int i = 0; i < things.size(); i++) sum += due(i, hour);
            return sum;
        }

        int dayTakes() {
            int sum = 0;
            for (int h = 0; h < 13; h++) sum += takes(h);
            return sum;
        }

        int dark(int hour) {
            int bits = 0;
            for (int c = 0; c < 30; c++) {
                for (int i = 0; i < things.size(); i++) {
                    if (!hidden(i, hour) && covers(i, hour, c)) bits |= 1 << c;
                }
            }
            return bits;
        }

        boolean tells(int i, int[] dues) {
            for (int h = 0; h < 13; h++) {
                if (due(i, h) != dues[h]) return false;
            }
            return true;
        }

        Square without(int i) {
            Square s = copyOf();
            s.things.set(i, null);
            return s;
        }

        Square with(int i, int field, int v) {
            Square s = copyOf();
            s.things.get(i)[field] = v;
            return s;
        }
    }

    private static final class Model {
        Square now = new Square();
        Square image;
        String tape = "";
        Object[] sheets = new Object[4];

        Model() {
            now.texts.add(trees("slants 4 ; dues 2 ; sets 0 ;"));
        }

        boolean has(int i) {
            return i >= 0 && i < now.things.size();
        }

        static boolean in(int v, int low, int high) {
            return v >= low && v <= high;
        }

        int set(int what, int of, int v) {
            int was = told(of, what);
            switch (what) {
                case 0:
                    if (!in(v, 0, 364)) return -2;
                    now.day = v;
                    return was;
                case 1:
                    if (!in(v, 0, 8191)) return -2;
                    now.clouds = v;
                    return was;
                case 2:
                    if (!has(of) || !in(v, 0, 9)) return -2;
                    now.things.get(of)[1] = v;
                    return was;
                case 3:
                    if (!has(of) || !in(v, 1, 20)) return -2;
                    now.things.get(of)[2] = v;
                    return was;
                case 4:
                    if (!has(of) || !in(v, 0, 29)) return -2;
                    now.things.get(of)[3] = v;
                    return was;
                default:
                    return -2;
            }
        }

        int thing(int kind, int number, int on) {
            if (!in(kind, 0, 5) || !in(number, 0, 9) || !in(on, 0, 29)) return -2;
            if (now.things.size() == 8) return -4;
            now.things.add(new int[] {kind, number, 5, on});
            return now.things.size() - 1;
        }

        int told(int of, int what) {
            if (what == 0) return now.day;
            if (what == 1) return now.clouds;
            if (!in(what, 2, 6) || !has(of)) return -2;
            int[] t = now.things.get(of);
            return what == 5 ? t[0] : what == 6 ? (t[0] == 3 ? 0 : 1) : t[what - 1];
        }

        int feed(int letter) {
            if (!in(letter, 0, 255)) return -2;
            if (tape.length() == 160) return -4;
            tape += (char) letter;
            return tape.length();
        }

        int text() {
            if (now.texts.size() == 6) return -4;
            String read = tape;
            tape = "";
            int fault = faultOf(read);
            if (fault >= 0) return -100 - fault;
            now.texts.add(trees(read));
            return now.texts.size() - 1;
        }

        int force(int text) {
            if (!in(text, 0, now.texts.size() - 1)) return -2;
            int was = now.rule;
            now.rule = text;
            return was;
        }

        int hour(int i, int hour, int what) {
            if (!has(i) || !in(hour, 0, 12) || !in(what, 0, 2)) return -2;
            if (what == 0) return now.length(i, hour);
            if (what == 1) return now.hidden(i, hour) ? 1 : 0;
            return now.due(i, hour);
        }

        int takes(int hour) {
            if (hour == -1) return now.dayTakes();
            return in(hour, 0, 12) ? now.takes(hour) : -2;
        }

        int dark(int hour) {
            return in(hour, 0, 12) ? now.dark(hour) : -2;
        }

        int hours(int what) {
            if (!in(what, 0, 3)) return -2;
            int most = -1, mostHour = -1, fair = -1, fairHour = -1;
            for (int h = 12; h >= 0; h--) {
                int takes = now.takes(h);
                if (takes >= most) {
                    most = takes;
                    mostHour = h;
                }
                if (takes > 0) {
                    int high = -1, low = 100000;
                    for (int i = 0; i < now.things.size(); i++) {
                        high = Math.max(high, now.due(i, h));
                        low = Math.min(low, now.due(i, h));
                    }
                    if (fairHour < 0 || high - low <= fair) {
                        fair = high - low;
                        fairHour = h;
                    }
                }
            }
            return new int[] {mostHour, most, fairHour, fair}[what];
        }

        int bestOrPlace(int i, int hour, int what, boolean all) {
            if (!has(i) || !in(hour, 0, 12) || !in(what, 0, 1)) return -2;
            int cell = -1, least = -1;
            for (int c = 29; c >= 0; c--) {
                Square s = now.with(i, 3, c);
                int v = all ? s.takes(hour) : s.due(i, hour);
                if (cell < 0 || v <= least) {
                    cell = c;
                    least = v;
                }
            }
            return what == 0 ? cell : least;
        }

        int shade(int i, int hour, int what) {
            if (!has(i) || !in(hour, 0, 12) || !in(what, 0, 1)) return -2;
            int who = -1, most = now.due(i, hour);
            for (int j = 0; j < now.things.size(); j++) {
                if (j == i) continue;
                int v = now.without(j).due(i, hour);
                if (v > most) {
                    who = j;
                    most = v;
                }
            }
            return what == 0 ? who : most;
        }

        int send(int hour, int what) {
            if (!in(hour, 0, 12) || !in(what, 0, 1)) return -2;
            int who = -1, most = 0;
            for (int j = 0; j < now.things.size(); j++) {
                int others = now.takes(hour) - now.due(j, hour);
                int less = others - now.without(j).takes(hour);
                if (less > most) {
                    who = j;
                    most = less;
                }
            }
            return what == 0 ? who : most;
        }

        int[] ints(Object sheet) {
            int n = java.lang.reflect.Array.getLength(sheet);
            int[] out = new int[n];
            for (int i = 0; i < n; i++) out[i] = java.lang.reflect.Array.getInt(sheet, i);
            return out;
        }

        int tells(int sheet, int i, int what) {
            if (!in(sheet, 0, 3) || !has(i) || !in(what, 0, 6)) return -2;
            if (sheets[sheet] == null) return -11;
            int[] dues = ints(sheets[sheet]);
            if (dues.length != 13) return -2;
            int out = 0;
            switch (what) {
                case 0:
                    for (int h = 0; h < 13; h++) if (now.due(i, h) != dues[h]) return h;
                    return -1;
                case 1:
                    for (int v = 0; v < 6; v++) if (now.with(i, 0, v).tells(i, dues)) out |= 1 << v;
                    return out;
                case 2:
                    for (int v = 0; v < 10; v++) if (now.with(i, 1, v).tells(i, dues)) out |= 1 << v;
                    return out;
                case 3:
                    for (int v = 1; v < 21; v++) if (now.with(i, 2, v).tells(i, dues)) out |= 1 << v;
                    return out;
                case 4:
                    for (int v = 0; v < 30; v++) if (now.with(i, 3, v).tells(i, dues)) out |= 1 << v;
                    return out;
                case 5:
                    for (int set = 0; set < 8192; set++) {
                        if (Integer.bitCount(set) > 2) continue;
                        Square s = now.copyOf();
                        s.clouds = set;
                        if (s.tells(i, dues)) out++;
                    }
                    return out;
                default:
                    for (int v = 0; v < now.texts.size(); v++) {
                        Square s = now.copyOf();
                        s.rule = v;
                        if (s.tells(i, dues)) out |= 1 << v;
                    }
                    return out;
            }
        }

        int film(int sheet, int i) {
            if (!in(sheet, 0, 3) || !has(i)) return -2;
            int[] row = new int[13];
            for (int h = 0; h < 13; h++) row[h] = now.due(i, h);
            sheets[sheet] = row;
            return 13;
        }

        int drawn(int seed) {
            Square s = now.copyOf();
            s.clouds = 0;
            int z = seed;
            for (int t = 0; t < 13; t++) {
                z = z * 1103515245 + 12345;
                if ((z >>> 9) % 3 == 0) s.clouds |= 1 << t;
            }
            return s.dayTakes();
        }

        long chance(int seed, int n, int k, int part) {
            if (!in(n, 1, 20) || !in(k, 0, 99999) || !in(part, 0, 1)) return -4611686018427387904L;
            int hits = 0;
            for (int i = 0; i < n; i++) if (drawn(seed + i) >= k) hits++;
            int below = n;
            for (int d = 20; d > 1; d--) {
                if (hits % d == 0 && below % d == 0) {
                    hits /= d;
                    below /= d;
                }
            }
            return part == 0 ? hits : below;
        }

        int image() {
            image = now.copyOf();
            return now.things.size();
        }

        int back() {
            if (image == null) return -3;
            now = image.copyOf();
            return now.things.size();
        }

        int count(int what) {
            return switch (what) {
                case 0 -> now.things.size();
                case 1 -> Integer.bitCount(now.clouds);
                case 2 -> now.texts.size();
                case 3 -> tape.length();
                case 4 -> now.rule;
                default -> -2;
            };
        }

        int sheet(int sheet, int sort, int n) {
            if (!in(sheet, 0, 3) || !in(sort, -1, 2)) return -2;
            if (sort >= 0 && n > 40) return -2;
            if (sort >= 0 && n < 0) return -14;
            sheets[sheet] = sort < 0 ? null : sort == 0 ? new byte[n] : sort == 1 ? new short[n] : new int[n];
            return 1;
        }

        int cell(int sheet, int i, int v) {
            if (!in(sheet, 0, 3)) return -2;
            if (sheets[sheet] == null) return -11;
            if (!in(i, 0, ints(sheets[sheet]).length - 1)) return -12;
            if (sheets[sheet] instanceof byte[] b) b[i] = (byte) v;
            if (sheets[sheet] instanceof short[] s) s[i] = (short) v;
            if (sheets[sheet] instanceof int[] w) w[i] = v;
            return 1;
        }

        int copy(int sheet, int i, int other, int j, int n) {
            if (!in(sheet, 0, 3) || !in(other, 0, 3)) return -2;
            try {
                System.arraycopy(sheets[sheet], i, sheets[other], j, n);
                return n;
            } catch (NullPointerException e) {
                return -11;
            } catch (ArrayStoreException e) {
                return -13;
            } catch (IndexOutOfBoundsException e) {
                return -12;
            }
        }

        int things(int sheet, int sort, int from, int n) {
            if (!in(sheet, 0, 3) || !in(sort, 0, 2) || !in(n, 0, 8)) return -2;
            if (sheets[sheet] == null) return -11;
            String name = sheets[sheet].getClass().getSimpleName();
            if (!name.equals(List.of("byte[]", "short[]", "int[]").get(sort))) return -13;
            int[] row = ints(sheets[sheet]);
            int came = 0;
            for (long k = 0; k < n; k++) {
                long at = from + 3 * k;
                if (at < 0 || at + 2 >= row.length) return -12;
                if (thing(row[(int) at], row[(int) at + 1], row[(int) at + 2]) >= 0) came++;
            }
            return came;
        }

        int taken(int i, int k) {
            if (!in(k, 0, 5)) return -2;
            if (!has(i)) return -11;
            for (String up = KIND[now.things.get(i)[0]]; !up.isEmpty(); up = UNDER[Arrays.asList(KIND).indexOf(up)]) {
                if (up.equals(KIND[k])) return now.things.get(i)[1];
            }
            return -13;
        }
    }

    // ---- runs

    private static final class Run {
        private final int number;
        private final Random random;
        private final ShadowTax real = new ShadowTax();
        private final Model model = new Model();
        private String last = "";
        private int calls;
        private boolean over;

        Run(int number) {
            this.number = number;
            this.random = new Random(77L * number + 5);
        }

        void go() {
            int things = random.nextInt(9);
            for (int i = 0; i < things; i++) {
                comes();
                grows(i);
            }
            while (calls < CALLS && !over) {
                int dice = random.nextInt(100);
                if (dice < 1) {
                    writes();
                } else if (dice < 8) {
                    films();
                } else {
                    int call = random.nextInt(27);
                    if (call != 4 || random.nextInt(8) == 0) calls(call);
                }
            }
        }

        private int some(int low, int high) {
            int dice = random.nextInt(120);
            if (dice == 0) return low - 1;
            if (dice == 1) return high + 1;
            if (dice == 2) return random.nextInt();
            if (dice == 3) return random.nextBoolean() ? Integer.MIN_VALUE : Integer.MAX_VALUE;
            return low + random.nextInt(high - low + 1);
        }

        private int someThing() {
            return some(0, Math.max(0, model.now.things.size() - 1));
        }

        private void comes() {
            int a = some(0, 5), b = some(0, 9), c = some(0, 29);
            last = "thing(" + a + ", " + b + ", " + c + ")";
            hold(real.thing(a, b, c), model.thing(a, b, c));
        }

        private void grows(int thing) {
            int height = some(1, 20);
            last = "set(3, " + thing + ", " + height + ")";
            hold(real.set(3, thing, height), model.set(3, thing, height));
        }

        private void films() {
            int s = random.nextInt(4), t = someThing();
            last = "film(" + s + ", " + t + ")";
            hold(real.film(s, t), model.film(s, t));
            int what = random.nextInt(7);
            last = "tells(" + s + ", " + t + ", " + what + ")";
            hold(real.tells(s, t, what), model.tells(s, t, what));
        }

        private void writes() {
            String text = random.nextInt(12) == 0 ? "" : "slants " + sum(0) + ";" + "dues " + any(0) + " ;sets " + any(0) + "; ";
            StringBuilder b = new StringBuilder(text);
            int slips = random.nextInt(3) == 0 ? random.nextInt(3) : 0;
            String letters = " \n();+-*<=09azhour\t\u00e9Q";
            for (int i = 0; i < slips && b.length() > 0; i++) {
                int at = random.nextInt(b.length());
                switch (random.nextInt(3)) {
                    case 0 -> b.deleteCharAt(at);
                    case 1 -> b.insert(at, letters.charAt(random.nextInt(letters.length())));
                    default -> b.setLength(at);
                }
            }
            for (int i = 0; i < b.length() && calls < CALLS; i++) {
                last = "feed(" + (int) b.charAt(i) + ")";
                hold(real.feed(b.charAt(i)), model.feed(b.charAt(i)));
            }
            String tape = model.tape;
            last = "text() of «" + tape + "»";
            hold(real.text(), model.text());
            int text2 = some(0, model.now.texts.size() - 1);
            last = "force(" + text2 + ")";
            hold(real.force(text2), model.force(text2));
        }

        private String any(int depth) {
            return switch (depth > 3 ? 8 : random.nextInt(9)) {
                case 0 -> any(depth + 1) + " or " + any(depth + 1);
                case 1 -> any(depth + 1) + " and " + any(depth + 1);
                case 2 -> "not " + any(depth + 1);
                case 3 -> sum(depth + 1) + "<" + sum(depth + 1);
                case 4 -> sum(depth + 1) + "=" + sum(depth + 1);
                default -> sum(depth + 1);
            };
        }

        private String sum(int depth) {
            if (depth > 4) return random.nextBoolean() ? "" + random.nextInt(12) : NAMES.get(random.nextInt(6));
            return switch (random.nextInt(10)) {
                case 0 -> sum(depth + 1) + "+" + sum(depth + 1);
                case 1 -> sum(depth + 1) + " - " + sum(depth + 1);
                case 2 -> sum(depth + 1) + "*" + sum(depth + 1);
                case 3 -> "-" + sum(depth + 1);
                case 4 -> "(" + any(depth + 1) + ")";
                case 5 -> "" + random.nextInt(random.nextInt(20) == 0 ? 30000 : 9);
                case 6 -> "0" + random.nextInt(9);
                default -> NAMES.get(random.nextInt(6));
            };
        }

        private void calls(int call) {
            int t = someThing(), h = some(0, 12), w = some(0, 1), s = some(0, 3);
            switch (call) {
                case 0 -> {
                    int what = some(0, 4), v = some(0, new int[] {364, 8191, 9, 20, 29}[Math.floorMod(what, 5)]);
                    if (what == 1 && random.nextInt(3) > 0) v &= random.nextInt(8192) & random.nextInt(8192);
                    last = "set(" + what + ", " + t + ", " + v + ")";
                    hold(real.set(what, t, v), model.set(what, t, v));
                }
                case 1 -> {
                    if (random.nextInt(4) == 0) comes();
                }
                case 2 -> {
                    int what = some(0, 6);
                    last = "told(" + t + ", " + what + ")";
                    hold(real.told(t, what), model.told(t, what));
                }
                case 3 -> {
                    int letter = some(0, 255);
                    if (random.nextInt(10) == 0) {
                        last = "feed(" + letter + ")";
                        hold(real.feed(letter), model.feed(letter));
                    }
                }
                case 4 -> {
                    last = "text()";
                    hold(real.text(), model.text());
                }
                case 5 -> {
                    int text = some(0, model.now.texts.size() - 1);
                    last = "force(" + text + ")";
                    hold(real.force(text), model.force(text));
                }
                case 6 -> {
                    int what = some(0, 2);
                    last = "hour(" + t + ", " + h + ", " + what + ")";
                    hold(real.hour(t, h, what), model.hour(t, h, what));
                }
                case 7 -> {
                    int hour = some(-1, 12);
                    last = "takes(" + hour + ")";
                    hold(real.takes(hour), model.takes(hour));
                }
                case 8 -> {
                    last = "dark(" + h + ")";
                    hold(real.dark(h), model.dark(h));
                }
                case 9 -> {
                    int what = some(0, 3);
                    last = "hours(" + what + ")";
                    hold(real.hours(what), model.hours(what));
                }
                case 10 -> {
                    last = "best(" + t + ", " + h + ", " + w + ")";
                    hold(real.best(t, h, w), model.bestOrPlace(t, h, w, false));
                }
                case 11 -> {
                    last = "place(" + t + ", " + h + ", " + w + ")";
                    hold(real.place(t, h, w), model.bestOrPlace(t, h, w, true));
                }
                case 12 -> {
                    last = "shade(" + t + ", " + h + ", " + w + ")";
                    hold(real.shade(t, h, w), model.shade(t, h, w));
                }
                case 13 -> {
                    last = "send(" + h + ", " + w + ")";
                    hold(real.send(h, w), model.send(h, w));
                }
                case 14 -> {
                    int what = some(0, 6);
                    last = "tells(" + s + ", " + t + ", " + what + ")";
                    hold(real.tells(s, t, what), model.tells(s, t, what));
                }
                default -> callsMore(call, t, s);
            }
        }

        private void callsMore(int call, int t, int s) {
            switch (call) {
                case 15 -> {
                    last = "film(" + s + ", " + t + ")";
                    hold(real.film(s, t), model.film(s, t));
                }
                case 16 -> {
                    int seed = random.nextInt();
                    last = "drawn(" + seed + ")";
                    hold(real.drawn(seed), model.drawn(seed));
                }
                case 17 -> {
                    int seed = some(-1000, 1000), n = some(1, 20), part = some(0, 1);
                    int k = random.nextBoolean() ? some(0, 99999) : Math.max(0, model.drawn(seed) + random.nextInt(3) - 1);
                    last = "chance(" + seed + ", " + n + ", " + k + ", " + part + ")";
                    hold(real.chance(seed, n, k, part), model.chance(seed, n, k, part));
                }
                case 18 -> {
                    last = "image()";
                    if (random.nextInt(3) == 0) hold(real.image(), model.image());
                }
                case 19 -> {
                    last = "back()";
                    if (random.nextInt(2) == 0) backs();
                }
                case 20 -> {
                    int what = some(0, 4);
                    last = "count(" + what + ")";
                    hold(real.count(what), model.count(what));
                }
                case 21 -> {
                    int sort = some(-1, 2), n = random.nextInt(3) == 0 ? 13 : some(0, 40);
                    last = "sheet(" + s + ", " + sort + ", " + n + ")";
                    hold(real.sheet(s, sort, n), model.sheet(s, sort, n));
                }
                case 22 -> {
                    int i = some(0, 12), v = random.nextInt(9) == 0 ? random.nextInt() : some(0, 29);
                    if (random.nextInt(4) > 0) v = Math.floorMod(v, 6);
                    last = "cell(" + s + ", " + i + ", " + v + ")";
                    hold(real.cell(s, i, v), model.cell(s, i, v));
                }
                case 23 -> {
                    int o = some(0, 3), i = some(0, 13), j = some(0, 13), n = some(0, 8);
                    last = "copy(" + s + ", " + i + ", " + o + ", " + j + ", " + n + ")";
                    hold(real.copy(s, i, o, j, n), model.copy(s, i, o, j, n));
                }
                case 24 -> {
                    int sort = some(0, 2), from = some(0, 12), n = some(0, 3);
                    last = "things(" + s + ", " + sort + ", " + from + ", " + n + ")";
                    hold(real.things(s, sort, from, n), model.things(s, sort, from, n));
                }
                default -> {
                    int k = some(0, 5);
                    last = "taken(" + t + ", " + k + ")";
                    hold(real.taken(t, k), model.taken(t, k));
                }
            }
        }

        /** An image keeps no texts: those that came since stay. */
        private void backs() {
            List<Tree[]> texts = model.now.texts;
            hold(real.back(), model.back());
            model.now.texts = texts;
        }

        private void hold(long got, long want) {
            calls++;
            if (got != want && !over && calls <= CALLS) {
                over = true;
                wrong++;
                System.out.println("run " + number + ", call " + calls + ": " + last + " answered " + got + ", due is " + want);
            }
        }
    }
}
