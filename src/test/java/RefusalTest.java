import java.util.ArrayList;
import java.util.List;
import java.util.function.Supplier;
import java.util.function.ToLongFunction;

/**
 * A refused call changes nothing, and neither does one that only asks: each is made on one of two squares that were
 * built by the same calls; what both answer to a long row of calls then, which reads (and in the end uses up) all that
 * a square holds, is alike.
 */
public final class RefusalTest {
    private static final int LOW = Integer.MIN_VALUE, HIGH = Integer.MAX_VALUE;
    private static final int BAD = -2, STATE = -3, FULL = -4, MISSING = -11, OUTSIDE = -12, UNLIKE = -13, BELOW = -14;
    private static final long NO = -4611686018427387904L;

    private record Call(String name, ToLongFunction<ShadowTax> made) { }

    private static String square = "";
    private static Supplier<ShadowTax> builder = ShadowTax::new;
    private static List<Long> untouched = List.of();
    private static int tried = 0;
    private static int wrong = 0;

    public static void main(String[] args) {
        on("a new square", ShadowTax::new);
        refusedAnywhere();
        refusedWhenNew();
        asks();
        on("a square with some of all", RefusalTest::some);
        refusedAnywhere();
        refusedWithSome();
        asks();
        on("a square as full as can be", RefusalTest::crammed);
        refusedAnywhere();
        refusedWhenFull();
        asks();
        on("a square with a full tape", RefusalTest::withFullTape);
        refused(FULL, "feed(59)", x -> x.feed(59));
        refused(BAD, "feed(256)", x -> x.feed(256));
        twinsDiffer();
        System.out.println(wrong == 0 ? tried + " calls changed nothing" : wrong + " calls are not as due");
        if (wrong != 0) {
            System.exit(1);
        }
    }

    // ---- the squares

    private static void write(ShadowTax x, String text) {
        for (int i = 0; i < text.length(); i++) {
            x.feed(text.charAt(i));
        }
    }

    private static void fill(ShadowTax x, int sheet, int sort, int... numbers) {
        x.sheet(sheet, sort, numbers.length);
        for (int i = 0; i < numbers.length; i++) {
            x.cell(sheet, i, numbers[i]);
        }
    }

    /** Six things, an image that is otherwise, three texts, half a text on the tape, three rows and a missing one. */
    private static ShadowTax some() {
        ShadowTax x = new ShadowTax();
        write(x, "slants 9-hour;dues 1+hour;sets number;");
        x.text();
        write(x, "slants 5;dues day-90;sets cell-9;");
        x.text();
        x.force(2);
        x.set(0, 0, 91);
        x.set(1, 0, 0b1000000000000);
        x.thing(1, 4, 3);
        x.thing(2, 6, 26);
        x.set(3, 0, 11);
        x.image();
        x.force(1);
        x.set(0, 0, 100);
        x.set(1, 0, 0b0100000000010);
        x.set(2, 0, 8);
        x.set(3, 0, 7);
        x.set(4, 0, 5);
        x.thing(0, 1, 8);
        x.thing(3, 9, 15);
        x.thing(4, 2, 11);
        x.thing(5, 3, 22);
        x.set(3, 4, 2);
        fill(x, 0, 0, 0, 1, 2, 3, 4, 5, 2, 7, 29);
        fill(x, 1, 1, 1, 0, 0, 2, 3, 1, 0, 8, 9, 4, 4, 4, 0);
        fill(x, 2, 2, 5, 9, 29, 0, 0, 0, 4, 5, 6, 1, 1, 1);
        write(x, "slants 8;dues 1");
        return x;
    }

    /** Eight things, six texts, all hours with clouds, rows of 40. */
    private static ShadowTax crammed() {
        ShadowTax x = new ShadowTax();
        for (int text = 1; text <= 5; text++) {
            write(x, "slants 4;dues " + text + ";sets 0;");
            x.text();
        }
        x.force(5);
        for (int i = 0; i < 8; i++) {
            x.thing(i % 6, 9 - i, 29 - 4 * i);
            if (i == 1) {
                x.image();
            }
        }
        x.set(0, 0, 364);
        x.set(1, 0, 8191);
        for (int sheet = 0; sheet < 4; sheet++) {
            x.sheet(sheet, sheet % 3, 40);
            x.cell(sheet, 39, sheet + 1);
        }
        write(x, "slants");
        return x;
    }

    /** A text that fills the tape, whose last byte tells. */
    private static ShadowTax withFullTape() {
        ShadowTax x = new ShadowTax();
        x.thing(0, 0, 15);
        write(x, "slants 8;dues 1;sets 0" + " ".repeat(137) + ";");
        return x;
    }

    // ---- the twins

    private static void on(String name, Supplier<ShadowTax> by) {
        square = name;
        builder = by;
        untouched = readAll(by.get());
    }

    private static void fails(String what) {
        wrong++;
        System.out.println("on " + square + ": " + what);
    }

    private static void refused(long want, String name, ToLongFunction<ShadowTax> made) {
        ShadowTax x = builder.get();
        long got = made.applyAsLong(x);
        if (got != want) {
            fails(name + " answered " + got + ", due is " + want);
        }
        staysUntouched(name, x);
    }

    private static void asked(Call call) {
        ShadowTax x = builder.get();
        call.made.applyAsLong(x);
        staysUntouched(call.name, x);
    }

    private static void staysUntouched(String name, ShadowTax x) {
        tried++;
        List<Long> seen = readAll(x);
        for (int i = 0; i < seen.size(); i++) {
            if (!seen.get(i).equals(untouched.get(i))) {
                fails(name + " changed answer " + i + " of the reading from " + untouched.get(i) + " to " + seen.get(i));
                return;
            }
        }
    }

    /** What can be read of a square; it is used up in the end. */
    private static List<Long> readAll(ShadowTax x) {
        List<Long> seen = new ArrayList<>();
        readSquare(x, seen);
        for (int sheet = 0; sheet < 4; sheet++) {
            for (int sort = 0; sort < 3; sort++) {
                add(seen, x.things(sheet, sort, 0, 0));
            }
            add(seen, sizeOf(x, sheet));
        }
        for (int sheet = 0; sheet < 4; sheet++) {
            add(seen, x.tells(sheet, 0, 0), x.tells(sheet, 0, 1), x.tells(sheet, 0, 5), x.tells(sheet, 0, 6));
        }
        write(x, "0;sets hour<9;");
        add(seen, x.text(), x.count(2), x.count(3));
        for (int text = 0; text < 6; text++) {
            add(seen, x.force(text), x.takes(0), x.takes(8), x.hour(0, 9, 0));
        }
        add(seen, x.back());
        readSquare(x, seen);
        readRows(x, seen);
        return seen;
    }

    private static void add(List<Long> seen, long... answers) {
        for (long answer : answers) {
            seen.add(answer);
        }
    }

    private static void readSquare(ShadowTax x, List<Long> seen) {
        for (int what = 0; what <= 4; what++) {
            add(seen, x.count(what));
        }
        add(seen, x.told(0, 0), x.told(0, 1), x.takes(-1), x.takes(0), x.takes(9), x.dark(5), x.dark(7));
        int things = x.count(0);
        for (int i = 0; i < things; i++) {
            add(seen, x.told(i, 2), x.told(i, 3), x.told(i, 4), x.told(i, 5));
        }
    }

    /** The furthest item from which none can be copied. */
    private static int sizeOf(ShadowTax x, int sheet) {
        int size = 0;
        for (int step = 32; step > 0; step /= 2) {
            int further = size + step;
            size = x.copy(sheet, further, sheet, further, 0) == 0 ? further : size;
        }
        return size;
    }

    /** The rows' numbers, read as things as far as there is room. */
    private static void readRows(ShadowTax x, List<Long> seen) {
        for (int sheet = 0; sheet < 4; sheet++) {
            for (int sort = 0; sort < 3; sort++) {
                int from = x.count(0);
                add(seen, x.things(sheet, sort, 0, 5));
                int to = x.count(0);
                for (int i = from; i < to; i++) {
                    add(seen, x.told(i, 2), x.told(i, 4), x.told(i, 5));
                }
                if (to > from) {
                    x.back();
                }
            }
        }
    }

    /** What is told to be alike must not be so by blindness: calls that do change something are seen. */
    private static void twinsDiffer() {
        on("a square with some of all", RefusalTest::some);
        List<Call> changes = List.of(
            new Call("set day", x -> x.set(0, 0, 101)), new Call("set clouds", x -> x.set(1, 0, 0b0100000000011)),
            new Call("set number", x -> x.set(2, 5, 4)), new Call("set height", x -> x.set(3, 3, 6)),
            new Call("set cell", x -> x.set(4, 1, 25)), new Call("thing", x -> x.thing(5, 0, 0)),
            new Call("feed", x -> x.feed('0')), new Call("feed a blank", x -> x.feed(' ')), new Call("text", ShadowTax::text),
            new Call("force", x -> x.force(2)), new Call("film", x -> x.film(3, 0)), new Call("image", ShadowTax::image),
            new Call("back", ShadowTax::back), new Call("sheet", x -> x.sheet(3, 0, 0)),
            new Call("sheet, one longer", x -> x.sheet(2, 2, 13)), new Call("sheet goes", x -> x.sheet(0, -1, 0)),
            new Call("cell, first", x -> x.cell(0, 0, 1)), new Call("cell, last", x -> x.cell(0, 8, 28)),
            new Call("cell of shorts", x -> x.cell(1, 4, 5)), new Call("cell of ints", x -> x.cell(2, 11, 2)),
            new Call("copy", x -> x.copy(2, 0, 2, 1, 1)), new Call("things", x -> x.things(0, 0, 0, 1)));
        for (Call change : changes) {
            ShadowTax x = builder.get();
            change.made.applyAsLong(x);
            if (readAll(x).equals(untouched)) {
                fails(change.name + " is not seen by the reading");
            }
        }
    }

    // ---- the calls

    private static int[] outside(int low, int high) {
        return new int[] {low - 1, high + 1, LOW, HIGH};
    }

    /** What is refused in the same way whatever stands on the square. */
    private static void refusedAnywhere() {
        refused(BAD, "set(-1, 0, 1)", x -> x.set(-1, 0, 1));
        refused(BAD, "set(5, 0, 1)", x -> x.set(5, 0, 1));
        for (int v : outside(0, 364)) {
            refused(BAD, "set(0, 0, " + v + ")", x -> x.set(0, 0, v));
        }
        for (int v : outside(0, 8191)) {
            refused(BAD, "set(1, 0, " + v + ")", x -> x.set(1, 0, v));
        }
        for (int v : outside(0, 9)) {
            refused(BAD, "set(2, 0, " + v + ")", x -> x.set(2, 0, v));
            refused(BAD, "thing(0, " + v + ", 0)", x -> x.thing(0, v, 0));
        }
        for (int v : outside(1, 20)) {
            refused(BAD, "set(3, 0, " + v + ")", x -> x.set(3, 0, v));
        }
        for (int v : outside(0, 29)) {
            refused(BAD, "set(4, 0, " + v + ")", x -> x.set(4, 0, v));
            refused(BAD, "thing(0, 0, " + v + ")", x -> x.thing(0, 0, v));
        }
        for (int v : outside(0, 5)) {
            refused(BAD, "thing(" + v + ", 0, 0)", x -> x.thing(v, 0, 0));
            refused(BAD, "force(" + v + ")", x -> x.force(v));
            refused(BAD, "taken(0, " + v + ")", x -> x.taken(0, v));
        }
        for (int v : outside(0, 255)) {
            refused(BAD, "feed(" + v + ")", x -> x.feed(v));
        }
        for (int of : outside(0, 7)) {
            for (int what = 2; what <= 4; what++) {
                int w = what;
                refused(BAD, "set(" + w + ", " + of + ", 1)", x -> x.set(w, of, 1));
                refused(BAD, "told(" + of + ", " + w + ")", x -> x.told(of, w));
            }
            refused(BAD, "hour(" + of + ", 0, 0)", x -> x.hour(of, 0, 0));
            refused(BAD, "best(" + of + ", 0, 0)", x -> x.best(of, 0, 0));
            refused(BAD, "place(" + of + ", 0, 0)", x -> x.place(of, 0, 0));
            refused(BAD, "shade(" + of + ", 0, 0)", x -> x.shade(of, 0, 0));
            refused(BAD, "tells(0, " + of + ", 0)", x -> x.tells(0, of, 0));
            refused(BAD, "film(0, " + of + ")", x -> x.film(0, of));
            refused(MISSING, "taken(" + of + ", 0)", x -> x.taken(of, 0));
        }
        for (int hour : outside(0, 12)) {
            refused(BAD, "hour(0, " + hour + ", 2)", x -> x.hour(0, hour, 2));
            refused(BAD, "dark(" + hour + ")", x -> x.dark(hour));
            refused(BAD, "best(0, " + hour + ", 0)", x -> x.best(0, hour, 0));
            refused(BAD, "place(0, " + hour + ", 0)", x -> x.place(0, hour, 0));
            refused(BAD, "shade(0, " + hour + ", 0)", x -> x.shade(0, hour, 0));
            refused(BAD, "send(" + hour + ", 0)", x -> x.send(hour, 0));
        }
        for (int hour : outside(-1, 12)) {
            refused(BAD, "takes(" + hour + ")", x -> x.takes(hour));
        }
        refusedWhats();
        refusedOfTheHost();
    }

    private static void refusedWhats() {
        for (int what : outside(0, 1)) {
            refused(BAD, "best(0, 0, " + what + ")", x -> x.best(0, 0, what));
            refused(BAD, "place(0, 0, " + what + ")", x -> x.place(0, 0, what));
            refused(BAD, "shade(0, 0, " + what + ")", x -> x.shade(0, 0, what));
            refused(BAD, "send(0, " + what + ")", x -> x.send(0, what));
            refused(NO, "chance(0, 1, 0, " + what + ")", x -> x.chance(0, 1, 0, what));
        }
        for (int what : outside(0, 2)) {
            refused(BAD, "hour(0, 0, " + what + ")", x -> x.hour(0, 0, what));
        }
        for (int what : outside(0, 3)) {
            refused(BAD, "hours(" + what + ")", x -> x.hours(what));
        }
        for (int what : outside(0, 4)) {
            refused(BAD, "count(" + what + ")", x -> x.count(what));
        }
        for (int what : outside(0, 6)) {
            refused(BAD, "told(0, " + what + ")", x -> x.told(0, what));
            refused(BAD, "tells(0, 0, " + what + ")", x -> x.tells(0, 0, what));
        }
        for (int n : outside(1, 20)) {
            refused(NO, "chance(0, " + n + ", 0, 0)", x -> x.chance(0, n, 0, 0));
        }
        for (int k : outside(0, 99999)) {
            refused(NO, "chance(0, 1, " + k + ", 0)", x -> x.chance(0, 1, k, 0));
        }
    }

    private static void refusedOfTheHost() {
        for (int s : outside(0, 3)) {
            refused(BAD, "tells(" + s + ", 0, 0)", x -> x.tells(s, 0, 0));
            refused(BAD, "film(" + s + ", 0)", x -> x.film(s, 0));
            refused(BAD, "sheet(" + s + ", 0, 1)", x -> x.sheet(s, 0, 1));
            refused(BAD, "sheet(" + s + ", -1, 1)", x -> x.sheet(s, -1, 1));
            refused(BAD, "cell(" + s + ", 0, 1)", x -> x.cell(s, 0, 1));
            refused(BAD, "copy(" + s + ", 0, 0, 0, 1)", x -> x.copy(s, 0, 0, 0, 1));
            refused(BAD, "copy(0, 0, " + s + ", 0, 1)", x -> x.copy(0, 0, s, 0, 1));
            refused(BAD, "things(" + s + ", 0, 0, 1)", x -> x.things(s, 0, 0, 1));
        }
        for (int sort : outside(-1, 2)) {
            refused(BAD, "sheet(0, " + sort + ", 1)", x -> x.sheet(0, sort, 1));
            refused(BAD, "things(0, " + sort + ", 0, 1)", x -> x.things(0, sort, 0, 1));
        }
        for (int n : outside(0, 40)) {
            refused(n > 40 ? BAD : BELOW, "sheet(0, 0, " + n + ")", x -> x.sheet(0, 0, n));
            refused(n > 40 ? BAD : BELOW, "sheet(3, 2, " + n + ")", x -> x.sheet(3, 2, n));
        }
        for (int n : outside(0, 8)) {
            refused(BAD, "things(0, 0, 0, " + n + ")", x -> x.things(0, 0, 0, n));
        }
    }

    private static void refusedWhenNew() {
        refused(BAD, "set(2, 0, 1)", x -> x.set(2, 0, 1));
        refused(BAD, "told(0, 2)", x -> x.told(0, 2));
        refused(BAD, "hour(0, 0, 0)", x -> x.hour(0, 0, 0));
        refused(BAD, "film(0, 0)", x -> x.film(0, 0));
        refused(BAD, "force(1)", x -> x.force(1));
        refused(STATE, "back()", ShadowTax::back);
        refused(MISSING, "taken(0, 0)", x -> x.taken(0, 0));
        for (int sheet = 0; sheet < 4; sheet++) {
            int s = sheet;
            refused(MISSING, "cell(" + s + ", 0, 1)", x -> x.cell(s, 0, 1));
            refused(MISSING, "copy(" + s + ", 0, 0, 0, 0)", x -> x.copy(s, 0, 0, 0, 0));
            refused(MISSING, "things(" + s + ", 0, 0, 0)", x -> x.things(s, 0, 0, 0));
        }
    }

    private static void refusedWithSome() {
        refused(BAD, "set(2, 6, 1)", x -> x.set(2, 6, 1));
        refused(BAD, "set(3, 6, 1)", x -> x.set(3, 6, 1));
        refused(BAD, "set(4, 6, 1)", x -> x.set(4, 6, 1));
        refused(BAD, "film(1, 6)", x -> x.film(1, 6));
        refused(BAD, "tells(1, 6, 0)", x -> x.tells(1, 6, 0));
        refused(MISSING, "tells(3, 0, 0)", x -> x.tells(3, 0, 0));
        refused(BAD, "tells(0, 0, 0)", x -> x.tells(0, 0, 0));
        refused(BAD, "tells(2, 0, 4)", x -> x.tells(2, 0, 4));
        refused(BAD, "force(3)", x -> x.force(3));
        refused(MISSING, "cell(3, 0, 1)", x -> x.cell(3, 0, 1));
        refused(OUTSIDE, "cell(0, 9, 1)", x -> x.cell(0, 9, 1));
        refused(OUTSIDE, "cell(0, -1, 1)", x -> x.cell(0, -1, 1));
        refused(OUTSIDE, "cell(2, 12, 1)", x -> x.cell(2, 12, 1));
        refused(MISSING, "copy(3, 0, 0, 0, 1)", x -> x.copy(3, 0, 0, 0, 1));
        refused(MISSING, "copy(0, 0, 3, 0, 1)", x -> x.copy(0, 0, 3, 0, 1));
        refused(UNLIKE, "copy(0, 0, 1, 0, 1)", x -> x.copy(0, 0, 1, 0, 1));
        refused(UNLIKE, "copy(2, 0, 1, 0, 1)", x -> x.copy(2, 0, 1, 0, 1));
        refused(OUTSIDE, "copy(0, 1, 0, 0, 9)", x -> x.copy(0, 1, 0, 0, 9));
        refused(OUTSIDE, "copy(0, 0, 0, 1, 9)", x -> x.copy(0, 0, 0, 1, 9));
        refused(OUTSIDE, "copy(0, 0, 0, -1, 2)", x -> x.copy(0, 0, 0, -1, 2));
        refused(OUTSIDE, "copy(0, -1, 0, 0, 2)", x -> x.copy(0, -1, 0, 0, 2));
        refused(OUTSIDE, "copy(0, 3, 0, 0, -1)", x -> x.copy(0, 3, 0, 0, -1));
        refused(OUTSIDE, "copy(0, 3, 0, 0, HIGH)", x -> x.copy(0, 3, 0, 0, HIGH));
        refused(MISSING, "things(3, 0, 0, 1)", x -> x.things(3, 0, 0, 1));
        refused(UNLIKE, "things(0, 1, 0, 1)", x -> x.things(0, 1, 0, 1));
        refused(UNLIKE, "things(1, 2, 0, 1)", x -> x.things(1, 2, 0, 1));
        refused(OUTSIDE, "things(0, 0, 7, 1): nothing stood ahead", x -> x.things(0, 0, 7, 1));
        refused(OUTSIDE, "things(0, 0, -1, 3): nothing stood ahead", x -> x.things(0, 0, -1, 3));
        refused(UNLIKE, "taken(0, 2)", x -> x.taken(0, 2));
        refused(UNLIKE, "taken(3, 2)", x -> x.taken(3, 2));
    }

    private static void refusedWhenFull() {
        refused(FULL, "thing(0, 0, 0)", x -> x.thing(0, 0, 0));
        refused(BAD, "thing(6, 0, 0)", x -> x.thing(6, 0, 0));
        refused(FULL, "text()", ShadowTax::text);
        refused(BAD, "force(6)", x -> x.force(6));
        refused(0, "things(0, 0, 0, 8): all are left out", x -> x.things(0, 0, 0, 8));
        refused(OUTSIDE, "things(0, 0, 33, 8): all are left out", x -> x.things(0, 0, 33, 8));
        refused(OUTSIDE, "cell(3, 40, 0)", x -> x.cell(3, 40, 0));
        refused(OUTSIDE, "copy(0, 0, 3, 1, 40)", x -> x.copy(0, 0, 3, 1, 40));
    }

    /** Calls that only ask, refused or not, change nothing either; so do some that change by their words alone. */
    private static void asks() {
        for (int hour = -1; hour <= 12; hour++) {
            int h = hour;
            asked(new Call("takes(" + h + ")", x -> x.takes(h)));
            asked(new Call("dark(" + h + ")", x -> x.dark(h)));
            for (int what = 0; what <= 2; what++) {
                int w = what;
                asked(new Call("hour(1, " + h + ", " + w + ")", x -> x.hour(1, h, w)));
                asked(new Call("best(0, " + h + ", " + w + ")", x -> x.best(0, h, w)));
                asked(new Call("place(1, " + h + ", " + w + ")", x -> x.place(1, h, w)));
                asked(new Call("shade(2, " + h + ", " + w + ")", x -> x.shade(2, h, w)));
                asked(new Call("send(" + h + ", " + w + ")", x -> x.send(h, w)));
            }
        }
        for (int what = 0; what <= 6; what++) {
            int w = what;
            asked(new Call("hours(" + w + ")", x -> x.hours(w)));
            asked(new Call("count(" + w + ")", x -> x.count(w)));
            asked(new Call("told(1, " + w + ")", x -> x.told(1, w)));
            asked(new Call("taken(1, " + w + ")", x -> x.taken(1, w)));
            for (int i = 0; i < 6; i++) {
                int t = i;
                asked(new Call("tells(1, " + t + ", " + w + ")", x -> x.tells(1, t, w)));
            }
        }
        asked(new Call("drawn(5)", x -> x.drawn(5)));
        asked(new Call("chance(5, 20, 10, 1)", x -> x.chance(5, 20, 10, 1)));
        asked(new Call("set(0, 0, told)", x -> x.set(0, 0, x.told(0, 0))));
        asked(new Call("force(count)", x -> x.force(x.count(4))));
        asked(new Call("copy(0, 0, 0, 0, 9)", x -> x.copy(0, 0, 0, 0, 9)));
        asked(new Call("copy(2, 12, 2, 0, 0)", x -> x.copy(2, 12, 2, 0, 0)));
        asked(new Call("things(0, 0, 0, 0)", x -> x.things(0, 0, 0, 0)));
    }
}
