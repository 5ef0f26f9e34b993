/** For each promise of the document: ordinary inputs, the edges that it names, wrong inputs, all reckoned by hand. */
public final class PromiseTest {
    private static final int LOW = Integer.MIN_VALUE, HIGH = Integer.MAX_VALUE;
    private static int wrong = 0;
    private static int promise = 0;

    private static void due(String call, long got, long want) {
        if (got != want) {
            wrong++;
            System.out.println("promise " + promise + ": " + call + " answered " + got + ", due is " + want);
        }
    }

    private static int write(ShadowTax x, String text) {
        for (int i = 0; i < text.length(); i++) {
            x.feed(text.charAt(i));
        }
        return x.text();
    }

    private static void rule(ShadowTax x, String text) {
        x.force(write(x, text));
    }

    /** A new square ruled by one text. */
    private static ShadowTax ruled(String text) {
        ShadowTax x = new ShadowTax();
        rule(x, text);
        return x;
    }

    private static int fault(String text) {
        return -100 - write(new ShadowTax(), text);
    }

    /** What an expression is, told by a thief, whose due is the rate itself (0 .. 40). */
    private static int value(String e) {
        ShadowTax x = ruled("slants 4;dues " + e + ";sets 0;");
        x.thing(5, 7, 11);
        x.set(0, 0, 300);
        return x.hour(0, 8, 2);
    }

    public static void main(String[] args) {
        newObject();
        set();
        thing();
        told();
        feed();
        text();
        textFaults();
        textDepth();
        textValues();
        force();
        hourLong();
        hourDue();
        hourHidden();
        takes();
        dark();
        hours();
        best();
        place();
        shade();
        send();
        tells();
        tellsMore();
        tellsByHour();
        crowd();
        film();
        drawn();
        chance();
        image();
        back();
        count();
        sheet();
        cell();
        copy();
        things();
        taken();
        System.out.println(wrong == 0 ? "all promises hold" : wrong + " answers are not as due");
        if (wrong != 0) {
            System.exit(1);
        }
    }

    private static void newObject() {
        promise = 1;
        ShadowTax x = new ShadowTax();
        due("things", x.count(0), 0);
        due("clouds", x.count(1), 0);
        due("texts", x.count(2), 1);
        due("tape", x.count(3), 0);
        due("rule", x.count(4), 0);
        due("day", x.told(0, 0), 0);
        due("clouds", x.told(0, 1), 0);
        due("no image", x.back(), -3);
        for (int s = 0; s < 4; s++) {
            due("sheets are missing", x.cell(s, 0, 0), -11);
        }
        due("another object", new ShadowTax().thing(0, 0, 0), 0);
        due("is apart", x.count(0), 0);
    }

    private static void set() {
        promise = 2;
        ShadowTax x = new ShadowTax();
        due("day", x.set(0, LOW, 364), 0);
        due("day", x.set(0, HIGH, 0), 364);
        due("day", x.set(0, 0, 365), -2);
        due("day", x.set(0, 0, -1), -2);
        due("clouds", x.set(1, -7, 8191), 0);
        due("clouds", x.set(1, 99, 64), 8191);
        due("clouds", x.set(1, 0, 8192), -2);
        due("clouds", x.set(1, 0, -1), -2);
        due("clouds stay", x.told(0, 1), 64);
        due("no clouds", x.set(1, 0, 0), 64);
        due("nobody's number", x.set(2, 0, 1), -2);
        x.thing(1, 3, 7);
        due("number", x.set(2, 0, 9), 3);
        due("number", x.set(2, 0, 10), -2);
        due("number", x.set(2, 0, -1), -2);
        due("number", x.set(2, 0, 0), 9);
        due("height", x.set(3, 0, 20), 5);
        due("height", x.set(3, 0, 21), -2);
        due("height", x.set(3, 0, 0), -2);
        due("height", x.set(3, 0, 1), 20);
        due("cell", x.set(4, 0, 29), 7);
        due("cell", x.set(4, 0, 30), -2);
        due("cell", x.set(4, 0, -1), -2);
        due("cell", x.set(4, 0, 0), 29);
        due("kind can't be set", x.set(5, 0, 0), -2);
        due("what", x.set(-1, 0, 0), -2);
        due("thing", x.set(4, 1, 0), -2);
        due("thing", x.set(4, -1, 0), -2);
        due("kind stays", x.told(0, 5), 1);
    }

    private static void thing() {
        promise = 3;
        ShadowTax x = new ShadowTax();
        due("kind", x.thing(-1, 0, 0), -2);
        due("kind", x.thing(6, 0, 0), -2);
        due("number", x.thing(0, -1, 0), -2);
        due("number", x.thing(0, 10, 0), -2);
        due("cell", x.thing(0, 0, -1), -2);
        due("cell", x.thing(0, 0, 30), -2);
        due("none came", x.count(0), 0);
        for (int i = 0; i < 8; i++) {
            due("thing", x.thing(i % 6, 9 - i, 29 - i), i);
            due("height", x.told(i, 3), 5);
        }
        due("no room", x.thing(0, 0, 0), -4);
        due("bad goes ahead of full", x.thing(0, 0, 30), -2);
        due("eight", x.count(0), 8);
        due("the last", x.told(7, 5) * 10000 + x.told(7, 2) * 100 + x.told(7, 4), 10222);
    }

    private static void told() {
        promise = 4;
        ShadowTax x = new ShadowTax();
        x.set(0, 0, 17);
        x.set(1, 0, 5);
        due("day", x.told(LOW, 0), 17);
        due("clouds", x.told(HIGH, 1), 5);
        due("nobody", x.told(0, 2), -2);
        int[] hides = {1, 1, 1, 0, 1, 1};
        for (int kind = 0; kind < 6; kind++) {
            x.thing(kind, kind + 1, kind + 10);
            x.set(3, kind, kind + 2);
            due("number", x.told(kind, 2), kind + 1);
            due("height", x.told(kind, 3), kind + 2);
            due("cell", x.told(kind, 4), kind + 10);
            due("kind", x.told(kind, 5), kind);
            due("hides", x.told(kind, 6), hides[kind]);
        }
        due("what", x.told(0, 7), -2);
        due("what", x.told(0, -1), -2);
        due("thing", x.told(6, 6), -2);
        due("thing", x.told(-1, 2), -2);
    }

    private static void feed() {
        promise = 5;
        ShadowTax x = new ShadowTax();
        due("byte", x.feed(-1), -2);
        due("byte", x.feed(256), -2);
        due("none came", x.count(3), 0);
        for (int i = 1; i <= 160; i++) {
            due("byte", x.feed(i % 2 == 0 ? 0 : 255), i);
        }
        due("no room", x.feed(32), -4);
        due("bad goes ahead of full", x.feed(256), -2);
        due("all stay", x.count(3), 160);
    }

    private static void text() {
        promise = 6;
        ShadowTax x = new ShadowTax();
        due("empty", x.text(), -100);
        due("plain", write(x, "slants 1;dues 1;sets 1;"), 1);
        due("tape is empty", x.count(3), 0);
        due("fault", write(x, "slants 1;dues 1;sets 1"), -122);
        due("tape is empty by a fault, too", x.count(3), 0);
        due("a fault behind two parts", write(x, "slants 1+1;dues 2;"), -118);
        due("blanks", write(x, "\n slants\n8 ; dues 3 ; sets 2 ; \n"), 2);
        x.force(2);
        x.thing(0, 0, 15);
        due("nothing is left of a fault", x.hour(0, 0, 0) * 100 + x.hour(0, 0, 2), 1028);
        x.force(0);
        due("no blanks", write(x, "slants1;dues2and3;sets4or5;"), 3);
        due("signs", write(x, "slants(hour+height*number);dues-long-day;sets not cell<1;"), 4);
        due("whole tape", write(x, "slants 1;dues 1;sets 1;" + " ".repeat(137)), 5);
        due("full", x.text(), -4);
        due("full", write(x, "slants 1"), -4);
        due("tape stays", x.count(3), 8);
        due("six texts", x.count(2), 6);
        due("rule stays", x.count(4), 0);
    }

    private static void textFaults() {
        promise = 6;
        due("size of blanks", fault("  "), 2);
        due("first key", fault(" dues 1;slants 1;sets 1;"), 1);
        due("second key", fault("slants 1;sets 1;"), 9);
        due("third key", fault("slants 1;dues 1;dues 1;"), 16);
        due("no E", fault("slants ;dues 1;sets 1;"), 7);
        due("too early, with blanks", fault("slants 1 ; dues 1 ; sets 1  "), 28);
        due("too early in E", fault("slants 1+"), 9);
        due("behind the end", fault("slants 1;dues 1;sets 1; ;"), 24);
        due("behind the end", fault("slants 1;dues 1;sets 1;x"), 23);
        due("unknown word", fault("slants hours;"), 7);
        due("unknown word", fault("slants hourz;"), 7);
        due("unknown word", fault("slants jour;"), 7);
        due("unknown word", fault("slants daz;"), 7);
        due("unknown word", fault("plants 1;"), 0);
        due("long word", fault("slantsx 1;"), 0);
        due("key for a name", fault("slants dues;"), 7);
        due("big letter", fault("slants Hour;"), 7);
        due("tab", fault("slants\t1;"), 6);
        due("byte 0", fault("slants 1\0;"), 8);
        due("byte 255", fault("slants \u00ff1;"), 7);
        due("five digits", fault("slants 10000;"), 7);
        due("five digits, of which 0", fault("slants 1+00001;"), 9);
        due("four digits", fault("slants 9999;x"), 12);
        due("two numbers", fault("slants 1 2;"), 9);
        due("name and number", fault("slants hour2;"), 11);
        due("two comparisons", fault("slants 1<2<3;"), 10);
        due("two comparisons", fault("slants 1=2<3;"), 10);
        due("compared again in brackets", fault("slants (1<2)=(2<3);x"), 19);
        due("not in a sum", fault("slants 1+not 1;"), 9);
        due("not behind <", fault("slants 1<not 1;"), 9);
        due("not behind -", fault("slants -not 1;"), 8);
        due("not in brackets", fault("slants -(not 1);x"), 16);
        due("bracket not closed", fault("slants (1;"), 9);
        due("bracket not opened", fault("slants 1);"), 8);
        due("empty brackets", fault("slants ();"), 8);
        due("two signs", fault("slants 1+*2;"), 9);
        due("two ors", fault("slants 1 or or 2;"), 12);
        due("plus ahead", fault("slants +1;"), 7);
        due("first of many", fault("slants 1 ) 99999 %"), 9);
    }

    private static void textDepth() {
        promise = 6;
        due("five (", fault("slants (((((1)))));x"), 19);
        due("six (", fault("slants ((((((1))))));"), 12);
        due("five -", fault("slants -----1;x"), 14);
        due("six -", fault("slants ------1;"), 12);
        due("five not", fault("slants not not not not not 1;x"), 29);
        due("six not", fault("slants not not not not not not 1;"), 27);
        due("mixed, five", fault("slants not(-(-1;"), 15);
        due("mixed, six", fault("slants not(-(-(1))));"), 14);
        due("- ends with its ONE", fault("slants -1-----1------1;x"), 23);
        due("( ends with )", fault("slants (((((1)))))+(((((1)))));x"), 31);
        due("not ends with its NOT", fault("slants not not not not not 1 and not not not not not 1;x"), 55);
        due("not lasts over <", fault("slants not 1<(((((1)))));"), 17);
        due("- lasts over (", fault("slants -(((((1)))));"), 12);
        due("- does not last over +", fault("slants -1+(((((1)))));x"), 22);
        due("not does not last over or", fault("slants not 1 or(((((1)))));x"), 27);
    }

    private static void textValues() {
        promise = 6;
        due("hour", value("hour"), 8);
        due("height", value("height"), 5);
        due("number", value("number"), 7);
        due("long of a thief", value("long+3"), 3);
        due("day", value("day-290"), 10);
        due("cell", value("cell"), 11);
        due("* ahead of +", value("2+3*4"), 14);
        due("* ahead of -", value("20-3*4-2"), 6);
        due("- from the left", value("9-3-2"), 4);
        due("brackets", value("(2+3)*4"), 20);
        due("- of one", value("--7"), 7);
        due("- ahead of *", value("9*-2+20"), 2);
        due("<", value("2<3"), 1);
        due("<", value("3<3"), 0);
        due("<", value("-1<0"), 1);
        due("=", value("3=1+2"), 1);
        due("=", value("3=4"), 0);
        due("or", value("0 or 7"), 1);
        due("or", value("0 or 0"), 0);
        due("and", value("5 and 7"), 1);
        due("and", value("1 and 1"), 1);
        due("and", value("5 and 0"), 0);
        due("and ahead of or", value("1 or 1 and 0"), 1);
        due("and ahead of or", value("0 and 0 or 1"), 1);
        due("not", value("not 0"), 1);
        due("not", value("not 7"), 0);
        due("not not", value("not not 7"), 1);
        due("not behind <", value("not 5<3"), 1);
        due("not ahead of and", value("not 0 and 0"), 0);
        due("bare value", value("(7)"), 7);
        due("wraps", value("9999*9999*43=4172*1000+747"), 1);
        due("wraps below 0", value("9999*9999*30<0"), 1);
        due("bound", value("41"), 40);
        due("bound", value("40"), 40);
        due("bound", value("0-1"), 0);
    }

    private static void force() {
        promise = 7;
        ShadowTax x = new ShadowTax();
        due("no such", x.force(1), -2);
        due("no such", x.force(-1), -2);
        due("same", x.force(0), 0);
        write(x, "slants 8;dues 3;sets 1;");
        x.thing(0, 0, 15);
        due("rule 0", x.hour(0, 0, 2), 10);
        due("force", x.force(1), 0);
        due("rule 1", x.hour(0, 0, 2), 29);
        due("count", x.count(4), 1);
        due("no such", x.force(2), -2);
        due("stays", x.force(0), 1);
        due("rule 0", x.hour(0, 0, 2), 10);
    }

    private static int longOf(int kind, int number, int height, int slant) {
        ShadowTax x = ruled("slants " + slant + ";dues 1;sets 0;");
        x.thing(kind, number, 0);
        x.set(3, 0, height);
        return x.hour(0, 0, 0);
    }

    private static void hourLong() {
        promise = 8;
        due("thing", longOf(0, 9, 7, 5), 8);
        due("thing, slant 0", longOf(0, 9, 20, 0), 0);
        due("thing, bound", longOf(0, 9, 20, 40), 29);
        due("thing, below the bound", longOf(0, 9, 14, 8), 28);
        due("person", longOf(1, 5, 7, 5), 6);
        due("person, number by three", longOf(1, 6, 7, 5), 8);
        due("person, bound", longOf(1, 2, 1, 4), 0);
        due("house", longOf(2, 9, 7, 5), 10);
        due("house, slant 0", longOf(2, 9, 7, 0), 2);
        due("child", longOf(3, 1, 7, 5), 3);
        due("child, of an unbound person", longOf(3, 0, 20, 9), 22);
        due("child, bound", longOf(3, 2, 1, 0), 0);
        due("child, bound", longOf(3, 0, 20, 40), 29);
        due("church", longOf(4, 9, 7, 5), 20);
        due("church, slant 0", longOf(4, 9, 7, 0), 4);
        due("church, bound", longOf(4, 9, 13, 4), 29);
        due("thief", longOf(5, 9, 20, 40), 0);
        due("slants above the bound", longOf(0, 0, 1, 9999), 10);
        due("slants above the bound", longOf(3, 1, 4, 41), 19);
        ShadowTax x = ruled("slants 4+long;dues 1;sets 0;");
        x.thing(0, 0, 29);
        due("long is 0 in slants", x.hour(0, 11, 0), 5);
        due("as long beyond the square", x.dark(11), 0);
        due("noon", x.hour(0, 6, 0), 0);
        x.set(1, 0, 1 << 11);
        due("cloud", x.hour(0, 11, 0), 0);
        due("no cloud", x.hour(0, 12, 0), 5);
        due("thing", x.hour(1, 0, 0), -2);
        due("thing", x.hour(-1, 0, 0), -2);
        due("hour", x.hour(0, 13, 0), -2);
        due("hour", x.hour(0, -1, 0), -2);
        due("what", x.hour(0, 0, 3), -2);
        due("what", x.hour(0, 0, -1), -2);
    }

    private static int dueOf(int kind, int number, int slant, String dues, String sets) {
        ShadowTax x = ruled("slants " + slant + ";dues " + dues + ";sets " + sets + ";");
        x.thing(kind, number, 15);
        return x.hour(0, 3, 2);
    }

    private static void hourDue() {
        promise = 8;
        due("thing", dueOf(0, 3, 8, "7", "0"), 70);
        due("person", dueOf(1, 9, 4, "1", "0"), 5);
        due("person, number at most", dueOf(1, 9, 8, "1", "0"), 9);
        due("house", dueOf(2, 3, 4, "3", "0"), 42);
        due("child, short", dueOf(3, 9, 6, "3", "0"), 0);
        due("child, four long", dueOf(3, 9, 7, "1", "0"), 4);
        due("child, number at most", dueOf(3, 6, 8, "40", "0"), 6);
        due("church", dueOf(4, 9, 0, "3", "0"), 15);
        due("church, bound", dueOf(4, 9, 0, "1", "0"), 0);
        due("church, bound ahead of sets", dueOf(4, 9, 0, "1", "0-99"), 0);
        due("thief", dueOf(5, 9, 20, "37", "0"), 37);
        due("most", dueOf(4, 0, 40, "40", "0"), 2320);
        due("long in dues", dueOf(0, 0, 8, "long", "0"), 100);
        due("long in sets", dueOf(0, 0, 8, "10", "long"), 90);
        due("sets off all", dueOf(0, 0, 4, "1", "5"), 0);
        due("0 at least", dueOf(0, 0, 4, "1", "9"), 0);
        due("sets, bound", dueOf(0, 0, 40, "40", "100"), 1160 - 99);
        due("sets, bound", dueOf(0, 0, 4, "1", "0-5"), 5);
        due("dues, bound", dueOf(0, 0, 4, "41", "0"), 200);
        due("dues, bound", dueOf(0, 0, 4, "0-1", "0"), 0);
    }

    private static void hourHidden() {
        promise = 8;
        ShadowTax x = new ShadowTax();
        x.thing(0, 0, 20);
        x.thing(0, 0, 15);
        x.thing(0, 0, 14);
        x.thing(0, 0, 10);
        x.thing(0, 0, 15);
        due("first in the sun", x.hour(0, 5, 1), 0);
        due("last cell of a shadow", x.hour(1, 5, 1), 1);
        due("hidden owes nothing", x.hour(1, 5, 2), 0);
        due("hidden is as long", x.hour(1, 5, 0), 5);
        due("behind the shadow; hidden has none", x.hour(2, 5, 1), 0);
        due("next one", x.hour(3, 5, 1), 1);
        due("on the same cell", x.hour(4, 5, 1), 1);
        due("east behind noon", x.hour(3, 7, 1), 0);
        due("east behind noon", x.hour(2, 7, 1), 1);
        due("hidden hides nobody", x.hour(1, 7, 1), 1);
        due("both on one cell", x.hour(4, 7, 1), 1);
        due("behind them", x.hour(0, 7, 1), 0);
        due("noon", x.hour(1, 6, 1), 0);
        x.set(1, 0, 1 << 5);
        due("cloud", x.hour(1, 5, 1), 0);
        due("cloud", x.hour(0, 5, 2), 0);
        x = new ShadowTax();
        x.thing(0, 0, 7);
        x.thing(0, 0, 7);
        due("not by one on its own cell", x.hour(1, 0, 1), 0);
        x = new ShadowTax();
        x.thing(3, 0, 20);
        x.set(3, 0, 20);
        x.thing(0, 0, 15);
        due("a child hides nobody", x.hour(1, 0, 1), 0);
        x.set(4, 0, 13);
        due("a child may be hidden", x.hour(0, 0, 1), 1);
        x.thing(5, 0, 16);
        due("a thief has no shadow", x.hour(1, 0, 1), 0);
    }

    /** A house on cell 10 (7 long) and a thing on cell 14 (5 long), ruled by the first text. */
    private static ShadowTax pair() {
        ShadowTax x = new ShadowTax();
        x.thing(2, 0, 10);
        x.thing(0, 0, 14);
        return x;
    }

    private static void takes() {
        promise = 9;
        ShadowTax x = pair();
        due("morning: the thing", x.takes(0), 10);
        due("evening: the house", x.takes(12), 28);
        due("noon", x.takes(6), 0);
        due("day", x.takes(-1), 6 * 10 + 6 * 28);
        x.set(1, 0, 1 | 1 << 12 | 1 << 6);
        due("cloud", x.takes(0), 0);
        due("day", x.takes(-1), 5 * 10 + 5 * 28);
        x.set(4, 1, 29);
        due("both", x.takes(1), 38);
        due("hour", x.takes(13), -2);
        due("hour", x.takes(-2), -2);
        due("nobody", new ShadowTax().takes(-1), 0);
    }

    private static void dark() {
        promise = 10;
        ShadowTax x = pair();
        due("morning", x.dark(0), 0b11111 << 9);
        due("evening", x.dark(7), 0b1111111 << 11);
        due("noon", x.dark(6), 0);
        x.set(4, 1, 2);
        due("as far as the square goes", x.dark(0), 0b1111111 << 3 | 0b11);
        x.set(4, 0, 29);
        due("west end", x.dark(0), 0b1111111 << 22 | 0b11);
        due("east end", x.dark(12), 0b11111 << 3);
        x.set(1, 0, 1 << 12);
        due("cloud", x.dark(12), 0);
        due("hour", x.dark(13), -2);
        due("hour", x.dark(-1), -2);
        x = new ShadowTax();
        x.thing(3, 0, 9);
        due("a child's shadow is one", x.dark(0), 0b11 << 7);
        x = new ShadowTax();
        x.thing(4, 0, 0);
        x.set(3, 0, 20);
        due("all but its own", x.dark(12), 0x3ffffffe);
    }

    private static void hours() {
        promise = 11;
        ShadowTax x = new ShadowTax();
        due("most of none", x.hours(0), 0);
        due("takes nothing", x.hours(1), 0);
        due("fairest", x.hours(2), -1);
        due("apart", x.hours(3), -1);
        x = pair();
        due("most", x.hours(0), 7);
        due("takes", x.hours(1), 28);
        due("fairest", x.hours(2), 0);
        due("apart", x.hours(3), 10);
        x.set(1, 0, 0b0000010000001);
        due("most", x.hours(0), 8);
        due("fairest", x.hours(2), 1);
        x.set(1, 0, 8191);
        due("most of none", x.hours(0), 0);
        due("fairest of none", x.hours(2), -1);
        due("apart of none", x.hours(3), -1);
        x = ruled("slants 4;dues hour=9 or hour=10;sets 0;");
        x.thing(0, 0, 0);
        due("fairest takes something", x.hours(2), 9);
        due("apart from nobody", x.hours(3), 0);
        x = ruled("slants 4*hour*(hour<4);dues 1;sets 0;");
        x.thing(0, 0, 0);
        x.thing(0, 0, 29);
        x.set(3, 1, 1);
        due("most", x.hours(0), 3);
        due("takes", x.hours(1), 18);
        due("fairest", x.hours(2), 1);
        due("apart", x.hours(3), 4);
        due("what", x.hours(4), -2);
        due("what", x.hours(-1), -2);
    }

    private static void best() {
        promise = 12;
        ShadowTax x = pair();
        due("in the thing's shadow", x.best(0, 0, 0), 9);
        due("nothing due", x.best(0, 0, 1), 0);
        due("in the house's shadow", x.best(1, 12, 0), 11);
        due("noon", x.best(1, 6, 0), 0);
        due("noon", x.best(1, 6, 1), 0);
        due("stays", x.told(1, 4), 14);
        due("one alone", alone().best(0, 0, 0), 0);
        due("one alone", alone().best(0, 0, 1), 10);
        x = ruled("slants 4;dues 40-cell*(cell<20);sets 0;");
        x.thing(5, 0, 3);
        due("by cell", x.best(0, 0, 0), 19);
        due("by cell", x.best(0, 0, 1), 21);
        due("thing", x.best(1, 0, 0), -2);
        due("thing", x.best(-1, 0, 0), -2);
        due("hour", x.best(0, 13, 0), -2);
        due("hour", x.best(0, -1, 0), -2);
        due("what", x.best(0, 0, 2), -2);
        due("what", x.best(0, 0, -1), -2);
    }

    private static ShadowTax alone() {
        ShadowTax x = new ShadowTax();
        x.thing(0, 0, 15);
        return x;
    }

    private static void place() {
        promise = 13;
        ShadowTax x = pair();
        due("house in the thing's shadow", x.place(0, 0, 0), 9);
        due("takes", x.place(0, 0, 1), 10);
        due("thing so that it hides the house", x.place(1, 0, 0), 11);
        due("takes", x.place(1, 0, 1), 10);
        due("thing hidden by the house or hiding it", x.place(1, 12, 0), 5);
        due("takes", x.place(1, 12, 1), 10);
        due("noon", x.place(1, 6, 0), 0);
        due("stays", x.told(1, 4), 14);
        due("takes as before", x.takes(0), 10);
        due("thing", x.place(2, 0, 0), -2);
        due("thing", x.place(-1, 0, 0), -2);
        due("hour", x.place(0, 13, 0), -2);
        due("hour", x.place(0, -1, 0), -2);
        due("what", x.place(0, 0, 2), -2);
        due("what", x.place(0, 0, -1), -2);
    }

    private static void shade() {
        promise = 14;
        ShadowTax x = pair();
        due("who hides it", x.shade(0, 0, 0), 1);
        due("due without", x.shade(0, 0, 1), 28);
        due("nobody", x.shade(1, 0, 0), -1);
        due("as now", x.shade(1, 0, 1), 10);
        due("noon", x.shade(0, 6, 0), -1);
        due("noon", x.shade(0, 6, 1), 0);
        due("as before", x.hour(0, 0, 1), 1);
        x.thing(0, 0, 13);
        due("thirteen is hidden itself", x.shade(0, 0, 0), -1);
        due("hidden all the same", x.shade(0, 0, 1), 0);
        x.set(4, 2, 14);
        due("two that hide it", x.shade(0, 0, 0), -1);
        due("the first one of all", x.shade(1, 12, 0), 0);
        due("due without", x.shade(1, 12, 1), 10);
        due("thing", x.shade(3, 0, 0), -2);
        due("thing", x.shade(-1, 0, 0), -2);
        due("hour", x.shade(0, 13, 0), -2);
        due("hour", x.shade(0, -1, 0), -2);
        due("what", x.shade(0, 0, 2), -2);
        due("what", x.shade(0, 0, -1), -2);
    }

    private static void send() {
        promise = 15;
        ShadowTax x = pair();
        due("none helps", x.send(0, 0), -1);
        due("none helps", x.send(0, 1), 0);
        // In the morning the thing on 15 hides that on 10, which else would hide the church on 5.
        x = new ShadowTax();
        x.thing(4, 0, 5);
        x.thing(0, 0, 10);
        x.thing(0, 0, 15);
        due("all", x.takes(0), 56 + 10);
        due("helps", x.send(0, 0), 2);
        due("by", x.send(0, 1), 56 - 10);
        due("noon", x.send(6, 0), -1);
        due("noon", x.send(6, 1), 0);
        due("all are there", x.takes(0), 66);
        due("nobody", new ShadowTax().send(0, 0), -1);
        due("hour", x.send(13, 0), -2);
        due("hour", x.send(-1, 0), -2);
        due("what", x.send(0, 2), -2);
        due("what", x.send(0, -1), -2);
        // Two that help alike: the first.
        x = new ShadowTax();
        x.thing(0, 0, 28);
        x.thing(0, 0, 23);
        x.thing(4, 0, 18);
        x.set(3, 2, 1);
        x.thing(0, 0, 11);
        x.thing(0, 0, 6);
        x.thing(4, 0, 1);
        x.set(3, 5, 1);
        due("both churches", x.takes(0), 10 + 24 + 10 + 24);
        due("the first", x.send(0, 0), 0);
        due("by", x.send(0, 1), 14);
    }

    private static void told13(ShadowTax x, int sheet, int sort, int morning, int evening) {
        x.sheet(sheet, sort, 13);
        for (int h = 0; h < 13; h++) {
            x.cell(sheet, h, h < 6 ? morning : h > 6 ? evening : 0);
        }
    }

    private static void tells() {
        promise = 16;
        ShadowTax x = alone();
        told13(x, 0, 2, 10, 10);
        due("none otherwise", x.tells(0, 0, 0), -1);
        due("kinds", x.tells(0, 0, 1), 1);
        due("numbers", x.tells(0, 0, 2), 1023);
        due("heights", x.tells(0, 0, 3), 1 << 5);
        due("cells", x.tells(0, 0, 4), (1 << 30) - 1);
        due("clouds: none, or noon", x.tells(0, 0, 5), 2);
        due("texts", x.tells(0, 0, 6), 1);
        x.cell(0, 12, 9);
        due("the last hour", x.tells(0, 0, 0), 12);
        due("no cell", x.tells(0, 0, 4), 0);
        x.cell(0, 12, 0);
        due("the last hour", x.tells(0, 0, 0), 12);
        due("cloud at 12", x.tells(0, 0, 5), 2);
        x.cell(0, 0, 0);
        due("the first hour", x.tells(0, 0, 0), 0);
        due("clouds at 0 and 12", x.tells(0, 0, 5), 1);
        x.cell(0, 1, 0);
        due("three clouds", x.tells(0, 0, 5), 0);
        x.set(1, 0, 0b1000000000011);
        due("they are there", x.tells(0, 0, 0), -1);
        due("heights below the clouds", x.tells(0, 0, 3), 1 << 5);
        due("clouds stay", x.told(0, 1), 0b1000000000011);
        due("sheet", x.tells(4, 0, 0), -2);
        due("sheet", x.tells(-1, 0, 0), -2);
        due("thing ahead of a missing sheet", x.tells(1, 1, 0), -2);
        due("thing", x.tells(0, -1, 0), -2);
        due("what ahead of a missing sheet", x.tells(1, 0, 7), -2);
        due("what", x.tells(0, 0, -1), -2);
        due("missing", x.tells(1, 0, 0), -11);
        x.sheet(1, 2, 12);
        due("12", x.tells(1, 0, 0), -2);
        x.sheet(1, 2, 14);
        due("14", x.tells(1, 0, 0), -2);
    }

    private static void tellsMore() {
        promise = 16;
        ShadowTax x = new ShadowTax();
        write(x, "slants 4;dues 1+1;sets 0;");
        write(x, "slants 4;dues 3;sets 0;");
        write(x, "slants 4;dues 3;sets 5;");
        x.thing(1, 9, 15);
        told13(x, 0, 0, 9, 9);
        due("bytes: kinds", x.tells(0, 0, 1), 1 << 1);
        due("bytes: numbers", x.tells(0, 0, 2), 1 << 9);
        due("heights from 5 on", x.tells(0, 0, 3), 0x1fffe0);
        due("texts", x.tells(0, 0, 6), 0b0111);
        due("rule stays", x.count(4), 0);
        due("kind stays", x.told(0, 5), 1);
        due("number stays", x.told(0, 2), 9);
        due("height stays", x.told(0, 3), 5);
        x.thing(0, 0, 25);
        told13(x, 1, 1, 0, 9);
        due("shorts: cells in the morning's shadow", x.tells(1, 0, 4), 0b11111 << 20);
        due("cell stays", x.told(0, 4), 15);
        x.set(4, 0, 22);
        due("none otherwise", x.tells(1, 0, 0), -1);
        due("clouds over the morning, or none", x.tells(1, 0, 5), 1 + 7 + 21);
        told13(x, 2, 0, 200, 200);
        x.set(2, 1, 0);
        due("bytes have a sign", x.tells(2, 1, 0), 0);
        x.set(1, 0, 0b1100000000011);
        due("other clouds instead of these", x.tells(1, 0, 5), 1 + 7 + 21);
        due("clouds stay", x.set(1, 0, 0), 0b1100000000011);
        x.thing(4, 0, 0);
        x.set(3, 2, 1);
        told13(x, 3, 2, 24, 24);
        due("kinds: the church alone", x.tells(3, 2, 1), 1 << 4);
        due("heights", x.tells(3, 2, 3), 1 << 1);
        x = new ShadowTax();
        x.thing(4, 0, 5);
        x.thing(0, 0, 25);
        told13(x, 0, 2, 10, 0);
        due("cells in the church's evening shadow", x.tells(0, 1, 4), (1 << 20) - (1 << 6));
        due("not where it stands", x.tells(0, 1, 0), 7);
    }

    /** What differs in the first or the last hour alone. */
    private static void tellsByHour() {
        promise = 16;
        for (int odd = 0; odd < 13; odd += 12) {
            ShadowTax x = ruled("slants 4;dues 2+(hour=" + odd + ")*number;sets (hour=" + odd + ")*cell;");
            x.thing(0, 1, 1);
            x.film(0, 0);
            due("none otherwise", x.tells(0, 0, 0), -1);
            due("numbers", x.tells(0, 0, 2), 1 << 1);
            due("cells", x.tells(0, 0, 4), 1 << 1);
            due("texts", x.tells(0, 0, 6), 0b10);
            x.cell(0, odd, 15);
            due("otherwise", x.tells(0, 0, 0), odd);
            x.cell(0, odd, 0);
            due("a cloud there, and perhaps at noon", x.tells(0, 0, 5), 2);
        }
    }

    private static void crowd() {
        ShadowTax x = new ShadowTax();
        for (int i = 0; i < 8; i++) {
            x.thing(0, 0, 3 * i);
        }
        promise = 8;
        due("the last of eight", x.hour(7, 0, 2), 10);
        promise = 9;
        due("every second one", x.takes(0), 40);
        promise = 11;
        due("apart", x.hours(3), 10);
        promise = 12;
        due("best: the shadow of that on 6 begins on 1", x.best(7, 0, 0), 1);
        promise = 13;
        due("place", x.place(7, 0, 1), 40);
        promise = 14;
        due("shade", x.shade(6, 0, 0), 7);
        promise = 15;
        due("send: without any of them four others owe", x.send(0, 0), -1);
        promise = 16;
        x.film(0, 7);
        due("tells", x.tells(0, 7, 0), -1);
        promise = 21;
        due("image", x.image(), 8);
        due("back", x.back(), 8);
    }

    private static void film() {
        promise = 17;
        ShadowTax x = pair();
        due("on a missing sheet", x.film(3, 1), 13);
        due("tells", x.tells(3, 1, 0), -1);
        due("is 13 long", x.cell(3, 12, 0), 1);
        due("no longer", x.cell(3, 13, 0), -12);
        x.sheet(2, 0, 2);
        due("on another sort", x.film(2, 0), 13);
        due("tells", x.tells(2, 0, 0), -1);
        due("tells the other", x.tells(2, 1, 0), 0);
        due("ints", x.things(2, 2, 0, 0), 0);
        due("no bytes", x.things(2, 0, 0, 0), -13);
        x = ruled("slants 40;dues 40;sets 0;");
        x.thing(4, 0, 15);
        x.film(0, 0);
        due("2320 is kept", x.tells(0, 0, 0), -1);
        due("sheet", x.film(4, 0), -2);
        due("sheet", x.film(-1, 0), -2);
        due("thing", x.film(1, 1), -2);
        due("thing", x.film(1, -1), -2);
        due("no change", x.cell(1, 0, 0), -11);
    }

    private static void drawn() {
        promise = 18;
        // The clouds are reckoned once more, in longs.
        ShadowTax x = ruled("slants 4;dues 1+hour;sets 0;");
        x.thing(5, 0, 0);
        int[] seeds = {0, 1, 5, -77, LOW, HIGH, 123456789};
        for (int seed : seeds) {
            long z = seed & 0xffffffffL;
            int want = 0;
            for (int h = 0; h < 13; h++) {
                z = z * 1103515245L + 12345L & 0xffffffffL;
                if (z / 512 % 3 != 0 && h != 6) {
                    want += 1 + h;
                }
            }
            due("seed " + seed, x.drawn(seed), want);
        }
        int was = x.drawn(9);
        x.set(1, 0, 8191);
        due("instead of the clouds", x.drawn(9), was);
        due("clouds stay", x.told(0, 1), 8191);
        due("nobody", new ShadowTax().drawn(1), 0);
    }

    private static void chance() {
        promise = 19;
        ShadowTax x = alone();
        due("ahead of any other look", x.chance(3, 20, 10, 0), 1);
        x.set(1, 0, 8191);
        due("whatever the clouds are", x.chance(3, 20, 10, 0), 1);
        for (int n = 1; n <= 20; n++) {
            // An object is good for 512 calls.
            x = alone();
            for (int k = 0; k <= 120; k += 10) {
                int hits = 0;
                for (int i = 0; i < n; i++) {
                    if (x.drawn(HIGH - 5 + i) >= k) {
                        hits++;
                    }
                }
                long above = x.chance(HIGH - 5, n, k, 0);
                long below = x.chance(HIGH - 5, n, k, 1);
                due("same share", above * n, below * hits);
                due("lowest terms", java.math.BigInteger.valueOf(above).gcd(java.math.BigInteger.valueOf(below)).longValue(), 1);
                due("below 1 .. n", below >= 1 && below <= n ? 1 : 0, 1);
            }
        }
        x = alone();
        due("all", x.chance(3, 20, 0, 0), 1);
        due("all", x.chance(3, 20, 0, 1), 1);
        due("none", x.chance(3, 20, 99999, 0), 0);
        due("none", x.chance(3, 20, 99999, 1), 1);
        long no = -4611686018427387904L;
        due("n", x.chance(0, 0, 0, 0), no);
        due("n", x.chance(0, 21, 0, 0), no);
        due("n", x.chance(0, LOW, 0, 0), no);
        due("k", x.chance(0, 1, -1, 0), no);
        due("k", x.chance(0, 1, 100000, 0), no);
        due("part", x.chance(0, 1, 0, 2), no);
        due("part", x.chance(0, 1, 0, -1), no);
    }

    private static void image() {
        promise = 20;
        ShadowTax x = new ShadowTax();
        due("nobody", x.image(), 0);
        due("back", x.back(), 0);
        x.thing(0, 0, 0);
        x.thing(1, 4, 9);
        due("two", x.image(), 2);
        x.thing(2, 0, 0);
        x.set(2, 1, 8);
        due("a later image", x.image(), 3);
        x.set(2, 1, 1);
        due("the later one", x.back(), 3);
        due("number", x.told(1, 2), 8);
    }

    private static void back() {
        promise = 21;
        ShadowTax x = new ShadowTax();
        due("none", x.back(), -3);
        write(x, "slants 1;dues 1;sets 1;");
        x.thing(1, 4, 9);
        x.set(0, 0, 100);
        x.set(1, 0, 7);
        x.set(3, 0, 12);
        x.force(1);
        x.sheet(0, 0, 5);
        x.image();
        for (int turn = 0; turn < 2; turn++) {
            x.set(0, 0, 200);
            x.set(1, 0, 70);
            x.set(2, 0, 9);
            x.set(3, 0, 20);
            x.set(4, 0, 29);
            x.force(0);
            due("one more", x.thing(4 - turn, 9, 9), 1);
            write(x, "slants 2;dues 2;sets 2;");
            x.feed('s');
            x.sheet(0, 2, 40);
            due("back", x.back(), 1);
            due("things", x.count(0), 1);
            due("gone", x.told(1, 5), -2);
            due("day", x.told(0, 0), 100);
            due("clouds", x.told(0, 1), 7);
            due("number", x.told(0, 2), 4);
            due("height", x.told(0, 3), 12);
            due("cell", x.told(0, 4), 9);
            due("kind", x.told(0, 5), 1);
            due("rule", x.count(4), 1);
            due("texts stay", x.count(2), 3 + turn);
            due("tape stays", x.count(3), 1);
            due("sheets stay", x.cell(0, 39, 1), 1);
            x.text();
        }
        due("a new one", x.thing(3, 1, 2), 1);
        due("kind", x.told(1, 5), 3);
        due("height", x.told(1, 3), 5);
    }

    private static void count() {
        promise = 22;
        ShadowTax x = pair();
        x.set(1, 0, 0b1000001000001);
        write(x, "slants 1;dues 1;sets 1;");
        x.force(1);
        x.feed(7);
        x.feed(8);
        x.feed(9);
        x.feed(9);
        due("things", x.count(0), 2);
        due("clouds", x.count(1), 3);
        due("texts", x.count(2), 2);
        due("bytes", x.count(3), 4);
        due("rule", x.count(4), 1);
        due("what", x.count(5), -2);
        due("what", x.count(-1), -2);
        x.set(1, 0, 8191);
        due("all clouds", x.count(1), 13);
    }

    private static void sheet() {
        promise = 23;
        ShadowTax x = new ShadowTax();
        due("sheet", x.sheet(4, 0, 1), -2);
        due("sheet", x.sheet(-1, 0, -1), -2);
        due("sort ahead of size", x.sheet(0, 3, -1), -2);
        due("sort", x.sheet(0, -2, 1), -2);
        due("above 40", x.sheet(0, 0, 41), -2);
        due("below 0", x.sheet(0, 0, -1), -14);
        due("below 0", x.sheet(0, 0, LOW), -14);
        due("still missing", x.cell(0, 0, 0), -11);
        due("40", x.sheet(3, 2, 40), 1);
        due("its last", x.cell(3, 39, 1), 1);
        due("behind it", x.cell(3, 40, 1), -12);
        due("0", x.sheet(0, 1, 0), 1);
        due("no first", x.cell(0, 0, 1), -12);
        x.thing(0, 0, 0);
        x.sheet(1, 2, 13);
        x.cell(1, 6, 5);
        due("6 is otherwise", x.tells(1, 0, 0), 0);
        x.set(1, 0, 8191);
        due("6 is otherwise", x.tells(1, 0, 0), 6);
        x.sheet(1, 0, 13);
        due("all 0 anew", x.tells(1, 0, 0), -1);
        due("missing", x.sheet(1, -1, HIGH), 1);
        due("is missing", x.cell(1, 0, 1), -11);
        due("missing", x.sheet(1, -1, LOW), 1);
    }

    private static void cell() {
        promise = 24;
        ShadowTax x = new ShadowTax();
        x.set(1, 0, 8191);
        x.thing(0, 0, 0);
        due("sheet", x.cell(4, 0, 0), -2);
        due("sheet", x.cell(-1, 0, 0), -2);
        due("missing", x.cell(0, -1, 0), -11);
        x.sheet(0, 0, 13);
        due("outside", x.cell(0, -1, 0), -12);
        due("outside", x.cell(0, 13, 0), -12);
        due("outside", x.cell(0, HIGH, 0), -12);
        due("a byte's lowest bits", x.cell(0, 12, 256), 1);
        due("are 0", x.tells(0, 0, 0), -1);
        due("a byte", x.cell(0, 12, 255), 1);
        due("is otherwise", x.tells(0, 0, 0), 12);
        x.sheet(1, 1, 13);
        due("a short's lowest bits", x.cell(1, 3, 0x7fff0000), 1);
        due("are 0", x.tells(1, 0, 0), -1);
        due("256 in a short", x.cell(1, 3, 256), 1);
        due("is otherwise", x.tells(1, 0, 0), 3);
        x.sheet(2, 2, 13);
        due("an int", x.cell(2, 0, 0x10000), 1);
        due("is otherwise", x.tells(2, 0, 0), 0);
    }

    private static void copy() {
        promise = 25;
        ShadowTax x = new ShadowTax();
        due("sheet", x.copy(4, 0, 0, 0, 0), -2);
        due("other", x.copy(0, 0, -1, 0, 0), -2);
        due("both missing", x.copy(0, 0, 1, 0, -1), -11);
        x.sheet(0, 0, 6);
        due("other missing", x.copy(0, 0, 1, 0, 1), -11);
        due("first missing", x.copy(1, 0, 0, 0, 1), -11);
        x.sheet(1, 1, 6);
        due("unlike sorts ahead of places", x.copy(0, 9, 1, 0, 1), -13);
        x.sheet(1, 0, 5);
        due("n below 0", x.copy(0, 0, 1, 0, -1), -12);
        due("i below 0", x.copy(0, -1, 1, 0, 1), -12);
        due("j below 0", x.copy(0, 0, 1, -1, 1), -12);
        due("behind the first", x.copy(1, 4, 0, 0, 2), -12);
        due("behind the other", x.copy(0, 0, 1, 4, 2), -12);
        due("wrapping", x.copy(0, 1, 1, 1, HIGH), -12);
        due("wrapping", x.copy(0, HIGH, 1, HIGH, 1), -12);
        due("none, at the ends", x.copy(0, 6, 1, 5, 0), 0);
        due("none, behind the end", x.copy(0, 7, 1, 5, 0), -12);
        due("all", x.copy(1, 0, 0, 1, 5), 5);
        // 5 1 2 3 4 0, four of them one on, is 5 5 1 2 3 0; read back as things.
        int[] row = {5, 1, 2, 3, 4, 0};
        for (int i = 0; i < 6; i++) {
            x.cell(0, i, row[i]);
        }
        due("onto itself", x.copy(0, 0, 0, 1, 4), 4);
        due("5 5 1, 2 3 0", x.things(0, 0, 0, 2), 2);
        due("kind", x.told(0, 5), 5);
        due("number", x.told(0, 2), 5);
        due("cell", x.told(0, 4), 1);
        due("kind", x.told(1, 5), 2);
        due("number", x.told(1, 2), 3);
        due("backwards", x.copy(0, 1, 0, 0, 5), 5);
        due("5 1 2", x.things(0, 0, 0, 1), 1);
        due("number", x.told(2, 2), 1);
        due("cell", x.told(2, 4), 2);
        due("onto another", x.copy(0, 3, 1, 2, 3), 3);
        due("3 0 0", x.things(1, 0, 2, 1), 1);
        due("kind", x.told(3, 5), 3);
    }

    private static void things() {
        promise = 26;
        ShadowTax x = new ShadowTax();
        due("sheet", x.things(4, 0, 0, 0), -2);
        due("sheet", x.things(-1, 0, 0, 0), -2);
        due("sort", x.things(0, 3, 0, 0), -2);
        due("sort", x.things(0, -1, 0, 0), -2);
        due("n", x.things(0, 0, 0, 9), -2);
        due("n", x.things(0, 0, 0, -1), -2);
        due("missing", x.things(0, 0, 0, 0), -11);
        x.sheet(0, 2, 8);
        due("another sort ahead of places", x.things(0, 1, 99, 1), -13);
        int[] row = {0, 1, 2, 6, 0, 0, 3, 4};
        for (int i = 0; i < 8; i++) {
            x.cell(0, i, row[i]);
        }
        due("none", x.things(0, 2, 0, 0), 0);
        due("one, one left out", x.things(0, 2, 0, 2), 1);
        due("number", x.told(0, 2), 1);
        due("cell", x.told(0, 4), 2);
        due("height", x.told(0, 3), 5);
        due("half of the third is there", x.things(0, 2, 0, 3), -12);
        due("what stood ahead came", x.count(0), 2);
        due("from 1: 1 2 6", x.things(0, 2, 1, 1), 1);
        due("kind", x.told(2, 5), 1);
        due("below 0", x.things(0, 2, -1, 1), -12);
        due("far", x.things(0, 2, HIGH, 8), -12);
        due("far", x.things(0, 2, LOW, 8), -12);
        due("none came", x.count(0), 3);
        x.sheet(1, 0, 24);
        due("five have room", x.things(1, 0, 0, 8), 5);
        due("full", x.things(1, 0, 0, 8), 0);
        due("full, and outside", x.things(1, 0, 21, 8), -12);
        due("eight", x.count(0), 8);
    }

    private static void taken() {
        promise = 27;
        ShadowTax x = new ShadowTax();
        for (int kind = 0; kind < 6; kind++) {
            x.thing(kind, 9 - kind, 0);
        }
        int[] as = {0b000001, 0b000011, 0b000101, 0b001011, 0b010101, 0b100001};
        for (int kind = 0; kind < 6; kind++) {
            for (int k = 0; k < 6; k++) {
                due(kind + " as " + k, x.taken(kind, k), (as[kind] >> k & 1) == 1 ? 9 - kind : -13);
            }
        }
        due("k", x.taken(0, 6), -2);
        due("k", x.taken(0, -1), -2);
        due("k ahead of the thing", x.taken(9, 6), -2);
        due("thing", x.taken(6, 0), -11);
        due("thing", x.taken(-1, 5), -11);
    }
}
