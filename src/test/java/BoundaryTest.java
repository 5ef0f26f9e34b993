import java.io.IOException;
import java.nio.charset.StandardCharsets;
import java.nio.file.Files;
import java.nio.file.Path;
import java.util.HashSet;
import java.util.Set;

/**
 * For each sentence of the document that names a boundary case (too small, too large, empty, full, a wrap-around, a
 * refused call) a test of its own. Each begins with says(..), which quotes the sentence and looks it up in the
 * document, so that a sentence that is told otherwise one day is noticed. That refused calls change nothing is
 * in RefusalTest.
 */
public final class BoundaryTest {
    private static final int LOW = Integer.MIN_VALUE, HIGH = Integer.MAX_VALUE;
    private static final int NONE = -1, BAD = -2, STATE = -3, FULL = -4;
    private static final int MISSING = -11, OUTSIDE = -12, UNLIKE = -13, BELOW = -14;
    private static final long NO = -4611686018427387904L;
    private static final int WHAT_IT_IS = -1, TERMS = 0;

    private static final Set<Integer> promisesSeen = new HashSet<>();
    private static String document = "";
    private static String sentence = "";
    private static int sentences = 0;
    private static int wrong = 0;

    public static void main(String[] args) throws IOException {
        document = Files.readString(Path.of(args.length > 1 ? args[1] : "../shared/DOC.md"), StandardCharsets.UTF_8);
        whatItIs();
        termsOfTheSquare();
        termsOfLengths();
        termsOfTexts();
        termsOfShadows();
        termsOfWhatIsBest();
        termsOfTellings();
        promises1To7();
        promises8To15();
        promises16To22();
        promises23To27();
        for (int promise = 1; promise <= 27; promise++) {
            if (!promisesSeen.contains(promise)) {
                fails("promise " + promise + " has no sentence here");
            }
        }
        System.out.println(sentences + " sentences" + (wrong == 0 ? " hold" : ", " + wrong + " answers are not as due"));
        if (wrong != 0) {
            System.exit(1);
        }
    }

    // ---- how it is told

    private static void fails(String what) {
        wrong++;
        System.out.println(what);
    }

    private static void due(String call, long got, long want) {
        if (got != want) {
            fails("\"" + sentence + "\": " + call + " answered " + got + ", due is " + want);
        }
    }

    /** The sentence that is tested from here on, which the document says ahead of all (-1), in its terms (0) or of a promise. */
    private static void says(int promise, String quote) {
        sentence = quote;
        sentences++;
        promisesSeen.add(promise);
        String from = promise == WHAT_IT_IS ? "## What it is" : promise == TERMS ? "## Terms" : "## Promise " + promise + ":";
        int begin = document.indexOf(from);
        int end = begin < 0 ? -1 : document.indexOf("\n## ", begin);
        if (end < 0 || !document.substring(begin, end).contains(quote)) {
            fails("the document does not say \"" + quote + "\" under " + from);
        }
    }

    /** Numbers below and above what is told, near and far, and such as a mask of bits would let in. */
    private static int[] outside(int low, int high) {
        return new int[] {low - 1, low - 2, high + 1, high + 2, LOW, LOW + 1, HIGH, HIGH - 1, LOW + low + 1,
            high + 256, high + 65536, -1000, 1 << 30};
    }

    private static int write(ShadowTax x, String text) {
        for (int i = 0; i < text.length(); i++) {
            x.feed(text.charAt(i));
        }
        return x.text();
    }

    private static ShadowTax ruled(String slants, String dues, String sets) {
        ShadowTax x = new ShadowTax();
        x.force(write(x, "slants " + slants + ";dues " + dues + ";sets " + sets + ";"));
        due("the rule " + slants + ";" + dues + ";" + sets, x.count(4), 1);
        return x;
    }

    /** The place of a text's fault, or less than 0. */
    private static int fault(String text) {
        return -100 - write(new ShadowTax(), text);
    }

    /** What an E is, 0 .. 40, told by a thief, who owes the rate itself. */
    private static int value(String e) {
        ShadowTax x = ruled("4", e, "0");
        x.thing(5, 7, 11);
        return x.hour(0, 8, 2);
    }

    private static ShadowTax alone() {
        ShadowTax x = new ShadowTax();
        x.thing(0, 0, 15);
        return x;
    }

    /** THINGS of kind 0, 5 high, so 5 LONG at first, each owing 10. */
    private static ShadowTax row(int... cells) {
        ShadowTax x = new ShadowTax();
        for (int cell : cells) {
            x.thing(0, 0, cell);
        }
        return x;
    }

    private static void fill(ShadowTax x, int sheet, int... numbers) {
        for (int i = 0; i < numbers.length; i++) {
            due("cell " + i, x.cell(sheet, i, numbers[i]), 1);
        }
    }

    private static void whatItIs() {
        says(WHAT_IT_IS, "An object is used for at most 512 calls after it has been made; what later calls answer is free.");
        ShadowTax x = alone();
        for (int call = 2; call <= 511; call++) {
            due("call " + call, x.takes(NONE), 120);
        }
        due("call 512", x.set(4, 0, 0), 15);
        x = new ShadowTax();
        for (int call = 1; call <= 512; call++) {
            due("call " + call, x.feed(' '), call <= 160 ? call : FULL);
        }
    }

    // ---- the terms

    private static void termsOfTheSquare() {
        says(TERMS, "CELLS 0 .. 29 in a row from west to east.");
        ShadowTax x = row(0, 29);
        due("both ends", x.count(0), 2);
        for (int off : outside(0, 29)) {
            due("thing on " + off, x.thing(0, 0, off), BAD);
            due("set to " + off, x.set(4, 1, off), BAD);
        }
        due("none came", x.count(0), 2);
        due("stays", x.set(4, 1, 0), 29);
        due("the west end", x.set(4, 1, 29), 0);

        says(TERMS, "HOURS 0 .. 12 (6 is noon).");
        x = alone();
        for (int hour = 0; hour <= 12; hour++) {
            due("due at " + hour, x.hour(0, hour, 2), hour == 6 ? 0 : 10);
            due("takes " + hour, x.takes(hour), hour == 6 ? 0 : 10);
        }
        for (int off : outside(0, 12)) {
            due("hour " + off, x.hour(0, off, 2), BAD);
            due("dark " + off, x.dark(off), BAD);
            due("best " + off, x.best(0, off, 0), BAD);
            due("place " + off, x.place(0, off, 0), BAD);
            due("shade " + off, x.shade(0, off, 0), BAD);
            due("send " + off, x.send(off, 0), BAD);
            due("takes " + off, x.takes(off), off == NONE ? 120 : BAD);
        }

        says(TERMS, "THE DAY (0 .. 364; 0 at first).");
        x = new ShadowTax();
        due("at first", x.told(0, 0), 0);
        due("last", x.set(0, 0, 364), 0);
        for (int off : outside(0, 364)) {
            due("day " + off, x.set(0, 0, off), BAD);
        }
        due("first", x.set(0, 0, 0), 364);

        says(TERMS, "CLOUDS: some HOURS (bits 0 .. 12; none at first).");
        x = alone();
        due("at first", x.told(0, 1), 0);
        int was = 0;
        for (int cloudy = 0; cloudy <= 12; cloudy++) {
            due("a cloud at " + cloudy, x.set(1, 0, 1 << cloudy), was);
            was = 1 << cloudy;
            for (int hour = 0; hour <= 12; hour++) {
                due("takes " + hour, x.takes(hour), hour == 6 || hour == cloudy ? 0 : 10);
            }
        }
        due("all", x.set(1, 0, 8191), 4096);
        for (int off : outside(0, 8191)) {
            due("clouds " + off, x.set(1, 0, off), BAD);
        }
        due("bit 13", x.set(1, 0, 1 << 13 | 1), BAD);
        due("none", x.set(1, 0, 0), 8191);

        says(TERMS, "THINGS (8 at most, numbered from 0) have a KIND: 0 THING, 1 PERSON under THING, 2 HOUSE under THING, "
            + "3 CHILD under PERSON, 4 CHURCH under HOUSE, 5 THIEF under THING;");
        x = new ShadowTax();
        for (int off : outside(0, 5)) {
            due("kind " + off, x.thing(off, 0, 0), BAD);
        }
        for (int i = 0; i < 8; i++) {
            due("nobody yet", x.told(i, 5), BAD);
            due("numbered", x.thing(i % 6, 0, 0), i);
            due("kind", x.told(i, 5), i % 6);
        }
        due("a ninth", x.thing(0, 0, 0), FULL);
        due("eight", x.count(0), 8);
        due("no ninth", x.told(8, 5), BAD);

        says(TERMS, "a NUMBER (0 .. 9)");
        x = new ShadowTax();
        due("0", x.thing(0, 0, 0), 0);
        due("9", x.thing(0, 9, 0), 1);
        for (int off : outside(0, 9)) {
            due("number " + off, x.thing(0, off, 0), BAD);
            due("number " + off, x.set(2, 1, off), BAD);
        }
        due("0", x.set(2, 1, 0), 9);
        due("9", x.set(2, 1, 9), 0);

        says(TERMS, "a HEIGHT (1 .. 20; 5 as one comes)");
        due("as it comes", x.set(3, 0, 1), 5);
        due("1", x.set(3, 0, 20), 1);
        for (int off : outside(1, 20)) {
            due("height " + off, x.set(3, 0, off), BAD);
        }
        due("20", x.told(0, 3), 20);

        says(TERMS, "NONE is -1; NO, where a long is answered, -4611686018427387904.");
        due("NONE", ShadowTax.NONE, NONE);
        due("NO", ShadowTax.NO, NO);
        due("NONE is answered", new ShadowTax().hours(2), NONE);
        due("NO is answered", new ShadowTax().chance(0, 0, 0, 0), NO);

        says(TERMS, "Refusals, the first that the call's words name; they change nothing: BAD (-2: a number is none such or "
            + "not as told), STATE (-3), FULL (-4);");
        due("BAD", ShadowTax.BAD, BAD);
        due("STATE", ShadowTax.STATE, STATE);
        due("FULL", ShadowTax.FULL, FULL);

        says(TERMS, "the host's: -11 nothing where something is asked, -12 a place outside, -13 a thing of another sort or KIND, "
            + "-14 a size below 0.");
        x = alone();
        due("nothing", x.cell(0, 0, 0), MISSING);
        due("nobody", x.taken(1, 0), MISSING);
        due("a size", x.sheet(0, 0, -1), BELOW);
        x.sheet(0, 0, 3);
        x.sheet(1, 1, 3);
        due("a place", x.cell(0, 3, 0), OUTSIDE);
        due("another sort", x.things(0, 1, 0, 1), UNLIKE);
        due("another sort", x.copy(0, 0, 1, 0, 1), UNLIKE);
        due("another KIND", x.taken(0, 1), UNLIKE);
    }

    private static int longOf(int kind, int number, int height, int slant) {
        ShadowTax x = ruled("" + slant, "1", "0");
        x.thing(kind, number, 15);
        x.set(3, 0, height);
        return x.hour(0, 3, 0);
    }

    /** What one owes whose shadow is (as a THING's) so long: so high, slant 4. */
    private static int owedBy(int kind, int number, int height, int rate) {
        ShadowTax x = ruled("4", "" + rate, "0");
        x.thing(kind, number, 15);
        x.set(3, 0, height);
        return x.hour(0, 9, 2);
    }

    private static void termsOfLengths() {
        says(TERMS, "Quotients are cut toward 0.");
        due("7 * 5 / 4", longOf(0, 0, 7, 5), 8);
        due("3 / 4", longOf(0, 0, 1, 3), 0);
        due("4 / 4", longOf(0, 0, 1, 4), 1);
        due("5 / 2", longOf(3, 0, 5, 4), 2);
        due("1 / 2", longOf(3, 0, 1, 4), 0);
        due("(1 - 2) / 2", longOf(3, 2, 1, 4), 0);

        says(TERMS, "THING: h times v by 4 (cut);");
        due("lowest", longOf(0, 9, 1, 0), 0);
        due("28", longOf(0, 9, 14, 8), 28);
        due("29 and a quarter", longOf(0, 9, 13, 9), 29);

        says(TERMS, "PERSON: NUMBER modulo 3 less than a THING;");
        int[] less = {0, 1, 2, 0, 1, 2, 0, 1, 2, 0};
        for (int number = 0; number <= 9; number++) {
            due("number " + number, longOf(1, number, 10, 4), 10 - less[number]);
        }

        says(TERMS, "HOUSE: 2 more than a THING;");
        due("of none", longOf(2, 9, 20, 0), 2);
        due("27 and 2", longOf(2, 9, 18, 6), 29);

        says(TERMS, "CHILD: half (cut) of a PERSON's;");
        due("half of 9", longOf(3, 1, 10, 4), 4);
        due("half of 57", longOf(3, 0, 19, 12), 28);
        due("half of 58", longOf(3, 2, 20, 12), 29);

        says(TERMS, "CHURCH: twice a HOUSE's;");
        due("of none", longOf(4, 9, 20, 0), 4);
        due("twice 14", longOf(4, 9, 12, 4), 28);

        says(TERMS, "THIEF: 0.");
        due("highest, most slanting", longOf(5, 9, 20, 40), 0);

        says(TERMS, "PERSON: as a THING, NUMBER at most;");
        due("one below", owedBy(1, 9, 8 + 9 % 3, 1), 8);
        due("as much", owedBy(1, 9, 9 + 9 % 3, 1), 9);
        due("one above", owedBy(1, 9, 10 + 9 % 3, 1), 9);
        due("of 0", owedBy(1, 0, 20, 40), 0);

        says(TERMS, "CHILD: 0, if n is below 4, else as a PERSON;");
        due("3", owedBy(3, 9, 7, 2), 0);
        due("4", owedBy(3, 9, 8, 2), 8);
        due("4, number at most", owedBy(3, 6, 8, 2), 6);

        says(TERMS, "CHURCH: NUMBER less than a HOUSE;");
        due("6 long, at 1: 12", owedBy(4, 9, 1, 1), 3);
        due("6 long, at 0", owedBy(4, 0, 1, 0), 0);
        due("below 0", owedBy(4, 1, 1, 0), 0);
        due("one above 0", owedBy(4, 7, 2, 1), 9);

        says(TERMS, "THIEF: v.");
        due("0", owedBy(5, 9, 20, 0), 0);
        due("40", owedBy(5, 9, 1, 40), 40);

        says(TERMS, "(LONG 0 .. 29, OWES 0 .. 9999, else the bound, in the end.)");
        due("thing, 30", longOf(0, 0, 15, 8), 29);
        due("thing, 200", longOf(0, 0, 20, 40), 29);
        due("person, 1 - 2", longOf(1, 2, 1, 4), 0);
        due("person, 1 - 1", longOf(1, 1, 1, 4), 0);
        due("person, 30 - 2", longOf(1, 2, 15, 8), 28);
        due("person, 31 - 2", longOf(1, 2, 18, 7), 29);
        due("person, 31", longOf(1, 0, 18, 7), 29);
        due("house, 28 and 2", longOf(2, 0, 14, 8), 29);
        due("child, half of 60", longOf(3, 0, 20, 12), 29);
        due("child, half of -2", longOf(3, 2, 1, 0), 0);
        due("church, twice 15", longOf(4, 0, 13, 4), 29);
        due("the most that any owes", owedBy(4, 0, 20, 40), 2 * 29 * 40);
        due("church, 4 long, at 0, less 9", owedBy(4, 9, 1, 0), 0);
    }

    private static void termsOfTexts() {
        says(TERMS, "A TEXT is read from THE TAPE (160 bytes at most).");
        ShadowTax x = new ShadowTax();
        String whole = "slants 4;dues 2;sets 0" + " ".repeat(137) + ";";
        due("a text of all 160", write(x, whole), 1);
        x = new ShadowTax();
        for (int i = 0; i < 160; i++) {
            due("byte", x.feed(whole.charAt(i)), i + 1);
        }
        due("one more", x.feed('x'), FULL);
        due("it did not come", x.text(), 1);

        says(TERMS, "TOKENS, each as long as can be: WORDS (a .. z), NUMBERS (as many digits as stand there, 4 at most), "
            + "SIGNS ( ) ; + - * < = ; blanks (32, 10) may stand between.");
        for (int letter = 0; letter <= 255; letter++) {
            x = new ShadowTax();
            due("byte " + letter + " behind a number", write(x, "slants 1;dues 2" + (char) letter + ";sets 0;"),
                behindNumber(letter));
            x = new ShadowTax();
            due("byte " + letter + " ahead of all", write(x, (char) letter + "slants 1;dues 2;sets 0;"),
                letter == 32 || letter == 10 ? 1 : -100);
        }
        due("4 digits", fault("slants 9999;dues 0000;sets 0001;"), -101);
        due("5 digits", fault("slants 12345;"), 7);
        due("5 digits", fault("slants 1*00000;"), 9);
        due("20 digits", fault("slants 11111111111111111111;"), 7);
        due("a word as long as can be", fault("slants dayday;"), 7);
        due("a word as long as can be", fault("slants notday;"), 7);
        due("a word as long as can be", fault("slants ho ur;"), 7);
        due("the longest word", fault("a".repeat(160)), 0);
        due("words and numbers next to one another", fault("slants1;dues2or3and4;sets-5;"), -101);
        due("blanks between all", fault("\n slants\n 1 +\n( 2 )\n;dues - \n2;sets not\n\n3 ;\n "), -101);

        says(TERMS, "An E is an int (32 bits, wrapping): of or, and, not, <, = 1 or 0 (what is not 0 is true).");
        due("2 ^ 31 is below 0", value("4096*4096*128<0"), 1);
        due("one less is not", value("4096*4096*128-1<0"), 0);
        due("one less, one more is", value("4096*4096*128-1+1<0"), 1);
        due("2 ^ 32 is 0", value("4096*4096*256=0"), 1);
        due("the least is its own -", value("-(4096*4096*128)=4096*4096*128"), 1);
        due("0 less the least", value("0-4096*4096*128<0"), 1);
        due("the least less 1", value("0<4096*4096*128-1"), 1);
        due("a product wraps", value("9999*9999*43=4172*1000+747"), 1);
        for (int a = -2; a <= 2; a++) {
            due("not " + a, value("7+(not " + a + ")"), a == 0 ? 8 : 7);
            for (int b = -2; b <= 2; b++) {
                due(a + " or " + b, value("7+(" + a + " or " + b + ")"), a == 0 && b == 0 ? 7 : 8);
                due(a + " and " + b, value("7+(" + a + " and " + b + ")"), a == 0 || b == 0 ? 7 : 8);
                due(a + " < " + b, value("7+(" + a + "<" + b + ")"), a < b ? 8 : 7);
                due(a + " = " + b, value("7+(" + a + "=" + b + ")"), a == b ? 8 : 7);
            }
        }
        due("2 ^ 32 is false", value("not 4096*4096*256"), 1);

        faults();
        bounds();
    }

    private static int behindNumber(int letter) {
        if (letter == 32 || letter == 10 || letter >= '0' && letter <= '9') {
            return 1;
        }
        return ";+-*<=".indexOf(letter) >= 0 ? -116 : -115;
    }

    private static void faults() {
        says(TERMS, "FAULT: the place of the first byte of the first TOKEN that can't stand there");
        due("the first", fault("dues 1;"), 0);
        due("behind blanks", fault("  \n;"), 3);
        due("a key for another", fault("slants 1;sets 1;"), 9);
        due("a name ahead", fault("hour slants 1;"), 0);
        due("no E", fault("slants ;"), 7);
        due("no ONE", fault("slants 1+;"), 9);
        due("no ONE", fault("slants 1* <2;"), 10);
        due("no NOT", fault("slants 1 or;"), 11);
        due("a second =", fault("slants 1=2=3;"), 10);
        due("a ) too many", fault("slants (1));"), 10);
        due("a ; too early", fault("slants (1;"), 9);
        due("a key within", fault("slants 1 and sets;"), 13);
        due("a not within a sum", fault("slants 1+not 2;"), 9);
        due("the first of two", fault("slants );dues );"), 7);
        due("behind the end", fault("slants 1;dues 1;sets 1;\n\n;"), 25);
        due("a fourth part", fault("slants 1;dues 1;sets 1;slants 1;"), 23);

        says(TERMS, "NAMES are hour height number long day cell; slants, dues, sets, or, and, not are KEYS.");
        for (String name : "hour height number long day cell".split(" ")) {
            due(name, fault("slants " + name + ";dues -" + name + ";sets(" + name + ");"), -101);
            due("no " + name + " for a key", fault(name + " 1;"), 0);
        }
        for (String key : "slants dues sets or and not".split(" ")) {
            due("no " + key + " for a ONE", fault("slants 1*" + key + ";"), 9);
            due("no " + key + " behind all", fault("slants 1;dues 1;sets 1;" + key), 23);
        }

        says(TERMS, "(the text's size, if it ends too early)");
        due("empty", fault(""), 0);
        due("blanks alone", fault("   "), 3);
        due("160 blanks", fault(" ".repeat(160)), 160);
        String text = "slants not(1<-2)or 3 ;dues 2*(3) ;sets 4 ;";
        for (int size = 0; size < text.length(); size++) {
            String part = text.substring(0, size);
            if (!part.matches("(?s).*(^|[^a-z])(s|sl|sla|slan|slant|d|du|due|se|set|n|no|o)")) {
                due("\"" + part + "\"", fault(part), size);
            }
        }
        due("whole", fault(text), -101);
        String[] lasts = {"1", "day", " ", "(", "not", ";", "dayx", "11111", "1;"};
        int[] places = {160, 160, 160, 160, 160, 159, 156, 155, -101};
        for (int i = 0; i < lasts.length; i++) {
            text = "slants 1;dues 1;sets" + " ".repeat(140 - lasts[i].length()) + lasts[i];
            due("160 bytes, the last " + lasts[i], fault(text), places[i]);
        }
        ShadowTax x = new ShadowTax();
        due("a longer text", write(x, "slants 111111111111111111;"), -107);
        due("bytes that were there end no shorter one", write(x, "slants 1"), -108);
        due("nor letters", write(x, "slants daydaydayday;"), -107);
        due("nor letters", write(x, "slants day"), -110);

        says(TERMS, "also of a byte that begins none");
        due("a dot", fault("slants 1.5;"), 8);
        due("where an E would do", fault("slants #;"), 7);
        due("at the end", fault("slants 1;dues 1;sets 1;\t"), 23);
        due("not seen behind another", fault("slants ) #"), 7);

        says(TERMS, "a WORD that is neither KEY nor NAME");
        for (String word : "hou hours heigh heights numbe numbers lon longs da days cel cells slant slantss due duess se setss o "
                .concat("orr an andd no nott x z").split(" ")) {
            due(word, fault("slants " + word + ";"), 7);
            due(word, fault(word + " 1;"), 0);
            due(word, fault("slants 1 " + word + " 2;"), 9);
        }

        says(TERMS, "a NUMBER that is too long");
        due("first of its digits", fault("slants (12345);"), 8);
        due("also where no number can stand", fault("slants 1 12345;"), 9);
        due("also for a key", fault("12345 1;"), 0);

        says(TERMS, "a ( , a not, a - ahead of a ONE while 5 of these are open (a ( till its ) , not and - till what they "
            + "belong to ends).");
        due("5 (", fault("slants (((((1)))));dues 1;sets 1;"), -101);
        due("6 (", fault("slants ((((((1))))));"), 12);
        due("5 not", fault("slants not not not not not 1;dues 1;sets 1;"), -101);
        due("6 not", fault("slants not not not not not not 1;"), 27);
        due("5 -", fault("slants -----1;dues 1;sets 1;"), -101);
        due("6 -", fault("slants ------1;"), 12);
        due("5 of all", fault("slants not -(not -1);dues 1;sets 1;"), -101);
        due("6: (", fault("slants not -(not -(1));"), 18);
        due("6: not", fault("slants not -(not -(not 1));"), 18);
        due("6: -", fault("slants not -(not -(-1));"), 18);
        due("a - between two is none of them", fault("slants (((((1-2-3)))));dues 1;sets 1;"), -101);
        due("a - behind it is", fault("slants (((((1--2)))));"), 14);
        due("- till its ONE ends", fault("slants -----1*-----1+-----1<-----1;dues 1;sets 1;"), -101);
        due("( till its )", fault("slants (((((1)))))*(((((1)))))=(((((1)))));dues 1;sets 1;"), -101);
        due("not till its NOT ends", fault("slants not not not not not 1 or not not not not not 1;dues 1;sets 1;"), -101);
        due("not lasts over + and <", fault("slants not 1+2<(((((3)))));"), 19);
        due("not lasts over *", fault("slants not 1*-----3;"), 17);
        due("not ends at )", fault("slants (not 1)+(((((1)))));dues 1;sets 1;"), -101);
        due("each part anew", fault("slants -----1;dues -----1;sets -----1;"), -101);
    }

    private static void bounds() {
        says(TERMS, "There are 6 TEXTS at most, TEXT 0 with them.");
        ShadowTax x = new ShadowTax();
        due("TEXT 0", x.count(2), 1);
        for (int text = 1; text <= 5; text++) {
            due("text", write(x, "slants " + text + ";dues 1;sets 0;"), text);
        }
        due("a seventh", write(x, "slants 9;dues 1;sets 0;"), FULL);
        due("six", x.count(2), 6);
        x.thing(0, 0, 15);
        x.set(3, 0, 8);
        for (int text = 5; text >= 0; text--) {
            x.force(text);
            due("long by text " + text, x.hour(0, 0, 0), text == 0 ? 8 : 2 * text);
        }

        says(TERMS, "long: how LONG its shadow is (of slants: 0);");
        x = ruled("4+long*9", "long", "long*2");
        x.thing(0, 0, 15);
        due("of slants", x.hour(0, 0, 0), 5);
        due("else", x.hour(0, 0, 2), 5 * 5 - 5 * 2);
        x = ruled("40", "long", "0");
        x.thing(5, 0, 3);
        due("of a thief", x.hour(0, 0, 2), 0);
        x = ruled("40", "long-20", "0");
        x.thing(0, 0, 3);
        due("not above its bound", x.hour(0, 0, 2), 29 * 9);

        says(TERMS, "slants, dues (0 .. 40, else the bound);");
        String[] below = {"0-1", "-9999", "4096*4096*128", "0"};
        for (String e : below) {
            x = ruled(e, "7", "0");
            x.thing(2, 0, 15);
            due("slants " + e, x.hour(0, 0, 0), 2);
            due("dues " + e, value(e), 0);
        }
        String[] above = {"40", "41", "9999", "4096*4096*128-1"};
        for (String e : above) {
            x = ruled(e, "7", "0");
            x.thing(0, 0, 15);
            x.set(3, 0, 1);
            due("slants " + e, x.hour(0, 0, 0), 10);
            due("dues " + e, value(e), 40);
        }
        due("dues 39", value("39"), 39);
        due("dues 1", value("1"), 1);

        says(TERMS, "sets: how much it may set off of what it owes (0 .. 99, else the bound).");
        due("below 0", setsOff("0-1"), 0);
        due("0", setsOff("0"), 0);
        due("98", setsOff("98"), 98);
        due("99", setsOff("99"), 99);
        due("100", setsOff("100"), 99);
        due("far below 0", setsOff("4096*4096*128"), 0);
        due("far above", setsOff("4096*4096*128-1"), 99);

        says(TERMS, "TEXT 0, at first THE RULE, is: slants 4 ; dues 2 ; sets 0 ;");
        x = alone();
        due("at first", x.count(4), 0);
        due("slants 4", x.hour(0, 12, 0), 5);
        due("dues 2, sets 0", x.hour(0, 12, 2), 10);
    }

    /** How much is set off of 400. */
    private static int setsOff(String e) {
        ShadowTax x = ruled("8", "40", e);
        x.thing(0, 0, 15);
        return 400 - x.hour(0, 0, 2);
    }

    private static void termsOfShadows() {
        says(TERMS, "In an HOUR with a CLOUD, and at noon, there are no shadows: nobody is HIDDEN, nobody OWES.");
        ShadowTax x = row(16, 15, 14);
        x.thing(5, 0, 0);
        for (int turn = 0; turn < 2; turn++) {
            int hour = turn == 0 ? 6 : 12;
            x.set(1, 0, turn == 0 ? 0 : 1 << 12);
            due("takes", x.takes(hour), 0);
            due("dark", x.dark(hour), 0);
            for (int i = 0; i < 4; i++) {
                due("long", x.hour(i, hour, 0), 0);
                due("hidden", x.hour(i, hour, 1), 0);
                due("due, a thief's too", x.hour(i, hour, 2), 0);
            }
        }
        x.set(1, 0, 1 << 6);
        due("both", x.takes(6), 0);
        due("next to it", x.takes(5), 10 + 2);

        says(TERMS, "as far as the square goes (it is as LONG all the same).");
        for (int on = 0; on <= 29; on++) {
            x = row(on);
            int west = 0;
            int east = 0;
            for (int far = 1; far <= 5; far++) {
                west |= on - far >= 0 ? 1 << on - far : 0;
                east |= on + far <= 29 ? 1 << on + far : 0;
            }
            for (int hour = 0; hour <= 12; hour++) {
                due("dark, on " + on + " at " + hour, x.dark(hour), hour < 6 ? west : hour > 6 ? east : 0);
                due("long", x.hour(0, hour, 0), hour == 6 ? 0 : 5);
                due("due", x.hour(0, hour, 2), hour == 6 ? 0 : 10);
            }
        }
        x = new ShadowTax();
        x.thing(4, 0, 0);
        x.set(3, 0, 20);
        due("29 to the west of 0", x.dark(0), 0);
        due("29 to the east of 0", x.dark(12), (1 << 30) - 2);
        x.set(4, 0, 29);
        due("29 to the west of 29", x.dark(0), (1 << 29) - 1);
        due("29 to the east of 29", x.dark(12), 0);

        says(TERMS, "One on a CELL on which the shadow of another one is that HIDES, is HIDDEN: it has no shadow then, and "
            + "OWES nothing");
        x = row(15);
        x.thing(5, 0, 0);
        for (int on = 0; on <= 29; on++) {
            x.set(4, 1, on);
            due("morning on " + on, x.hour(1, 5, 1), on >= 10 && on <= 14 ? 1 : 0);
            due("morning on " + on, x.hour(1, 5, 2), on >= 10 && on <= 14 ? 0 : 2);
            due("evening on " + on, x.hour(1, 7, 1), on >= 16 && on <= 20 ? 1 : 0);
            due("evening on " + on, x.hour(1, 7, 2), on >= 16 && on <= 20 ? 0 : 2);
        }
        x = row(20, 16);
        due("it has no shadow", x.dark(0), 0b11111 << 15);
        int[][] heights = {{9, 2}, {2, 9}};
        for (int[] height : heights) {
            x = row(20, 20, 12, 28);
            x.set(3, 0, height[0]);
            x.set(3, 1, height[1]);
            x.set(3, 2, 1);
            x.set(3, 3, 1);
            due("two on one cell hide as far as the longer, morning", x.hour(2, 0, 1), 1);
            due("two on one cell hide as far as the longer, evening", x.hour(3, 12, 1), 1);
            due("dark as far", x.dark(0), 0x1ff << 11 | 1 << 27);
            due("neither hides the other", x.hour(0, 0, 1) + x.hour(1, 0, 1), 0);
        }

        says(TERMS, "THING: yes; CHILD: no; all others: yes.");
        for (int kind = 0; kind <= 5; kind++) {
            x = new ShadowTax();
            x.thing(kind, 0, 15);
            x.set(3, 0, 20);
            x.thing(0, 0, 14);
            due("behind kind " + kind, x.hour(1, 0, 1), kind == 3 || kind == 5 ? 0 : 1);
            due("told", x.told(0, 6), kind == 3 ? 0 : 1);
        }

        says(TERMS, "(told from the side of the sun on: from east before noon, from west behind it).");
        x = row(20, 16, 12);
        due("morning: the first", x.hour(0, 0, 1), 0);
        due("morning: behind it", x.hour(1, 0, 1), 1);
        due("morning: behind one that is hidden", x.hour(2, 0, 1), 0);
        due("evening: the first", x.hour(2, 12, 1), 0);
        due("evening: behind it", x.hour(1, 12, 1), 1);
        due("evening: behind one that is hidden", x.hour(0, 12, 1), 0);
        x = row(28, 24, 20, 16, 12, 8, 4, 0);
        for (int i = 0; i < 8; i++) {
            due("morning, eight", x.hour(i, 5, 1), i % 2);
            due("evening, eight", x.hour(i, 7, 1), 1 - i % 2);
        }

        says(TERMS, "what it OWES less what it sets off, 0 at least; HIDDEN: 0.");
        int[] sets = {0, 9, 10, 11, 99};
        int[] left = {10, 1, 0, 0, 0};
        for (int i = 0; i < sets.length; i++) {
            x = ruled("4", "2", "" + sets[i]);
            x.thing(0, 0, 15);
            due("10 less " + sets[i], x.hour(0, 0, 2), left[i]);
            due("all", x.takes(NONE), 12 * left[i]);
            x.thing(0, 0, 16);
            due("hidden", x.hour(0, 0, 2), 0);
        }

        says(TERMS, "DAY's: of all HOURS, together.");
        x = ruled("4", "1+hour", "0");
        x.thing(5, 0, 3);
        due("1 .. 13 but 7", x.takes(NONE), 91 - 7);
        x.set(1, 0, 8191 - 4096);
        due("the last", x.takes(NONE), 13);
        x.set(1, 0, 8191 - 1);
        due("the first", x.takes(NONE), 1);
        x.set(1, 0, 8191);
        due("none", x.takes(NONE), 0);
    }

    private static void termsOfWhatIsBest() {
        says(TERMS, "MOST HOUR: that which TAKES most; of like ones the first.");
        due("of nobody", new ShadowTax().hours(0), 0);
        due("all alike", alone().hours(0), 0);
        ShadowTax x = ruled("4", "(hour=3 or hour=9)+(hour=12)*2", "0");
        x.thing(5, 0, 0);
        due("the last", x.hours(0), 12);
        x.set(1, 0, 1 << 12);
        due("of two", x.hours(0), 3);
        x.set(1, 0, 8191);
        due("of nothing", x.hours(0), 0);

        says(TERMS, "FAIREST: of HOURS that TAKE anything that in which the most DUE of any THING less the least of any is "
            + "least; of like ones the first; NONE.");
        due("of nobody", new ShadowTax().hours(2), NONE);
        due("alone, all alike", alone().hours(2), 0);
        x = row(15);
        x.set(1, 0, 1);
        due("alone, below a cloud", x.hours(2), 1);
        x.set(1, 0, 8191);
        due("nothing is taken", x.hours(2), NONE);
        x = ruled("4", "hour=4 or hour=11", "0");
        x.thing(0, 0, 0);
        x.thing(0, 0, 29);
        x.set(3, 1, 9);
        due("no fairer hour takes anything", x.hours(2), 4);
        due("9 - 5", x.hours(3), 4);
        x.set(4, 0, 20);
        due("one is hidden: 9 - 0 ahead of noon, no more fair than", x.hours(2), 11);
        x.set(1, 0, 1 << 11);
        due("the least is of one that is hidden", x.hours(3), 9);

        says(TERMS, "BEST CELL (a THING, an HOUR): that on which it would have the least DUE; of like ones the first.");
        due("all alike", alone().best(0, 0, 0), 0);
        x = row(17, 20);
        due("of five", x.best(0, 0, 0), 15);
        x = ruled("4", "cell+1", "0");
        x.thing(5, 0, 29);
        due("the first", x.best(0, 12, 0), 0);
        x = ruled("4", "40-cell", "0");
        x.thing(5, 0, 0);
        due("the last", x.best(0, 12, 0), 29);
        due("the last", x.best(0, 12, 1), 11);

        says(TERMS, "PLACE (a THING, an HOUR): that on which it would make the HOUR TAKE least; of like ones the first.");
        due("all alike", alone().place(0, 0, 0), 0);
        x = row(29, 20);
        due("hidden, ahead of hiding", x.place(0, 0, 0), 15);
        due("one is left", x.place(0, 0, 1), 10);
        x.set(3, 0, 1);
        due("a short one hides it", x.place(0, 0, 0), 21);
        due("2 are left", x.place(0, 0, 1), 2);
        x.set(3, 1, 1);
        due("hidden in the other's only cell", x.place(0, 0, 0), 19);
        x = ruled("4", "40-cell", "0");
        x.thing(5, 0, 0);
        x.thing(5, 0, 29);
        due("the last", x.place(0, 0, 0), 29);
        due("of both", x.place(0, 0, 1), 22);

        says(TERMS, "SHADE (a THING, an HOUR): the other THING without which (were it nowhere) its DUE would be most, if more "
            + "than now; of like ones the first; NONE.");
        due("alone", alone().shade(0, 0, 0), NONE);
        x = row(15, 20);
        due("by one", x.shade(0, 0, 0), 1);
        due("not itself", x.shade(1, 0, 0), NONE);
        x = row(15, 20, 20);
        due("by either of two: no more than now", x.shade(0, 0, 0), NONE);
        due("as now", x.shade(0, 0, 1), 0);
        x = row(5, 17, 9, 13);
        due("of two, without each of which it owes 10, the first", x.shade(0, 0, 0), 1);
        x = row(5, 9, 17, 13);
        due("the first", x.shade(0, 0, 0), 1);
        x = row(17, 9, 13, 5);
        due("the first", x.shade(3, 0, 0), 0);

        says(TERMS, "SEND AWAY (an HOUR): the THING without which (were it nowhere) DUE of all others, together, would be less "
            + "by most, if by any; of like ones the first; NONE.");
        due("of nobody", new ShadowTax().send(0, 0), NONE);
        due("alone", alone().send(0, 0), NONE);
        x = row(0, 10, 20);
        due("nobody hides another", x.send(0, 0), NONE);
        due("nor", x.send(0, 1), 0);
        x = row(16, 20);
        due("others would owe more", x.send(0, 0), NONE);
        x = row(16, 20, 12);
        due("10 more and 10 less", x.send(0, 0), NONE);
        x.set(3, 2, 6);
        due("10 more and 12 less", x.send(0, 0), 1);
        due("by", x.send(0, 1), 2);
        x = row(29, 25, 21, 14, 10, 6);
        x.set(3, 2, 6);
        x.set(3, 5, 6);
        due("of two the first", x.send(0, 0), 0);
        x.set(3, 5, 7);
        due("the one by most", x.send(0, 0), 3);

        says(TERMS, "DARK (an HOUR): CELLS (bits) on which a shadow is.");
        due("of nobody", new ShadowTax().dark(0), 0);
        x = row(5, 5, 6);
        due("one upon another", x.dark(12), 0b11111 << 6);
        x = row(29);
        x.set(3, 0, 20);
        due("cell 9 .. 28", x.dark(0), (1 << 29) - (1 << 9));
    }

    /** What a day takes of one who owes 1 + hour, its clouds drawn by a seed: reckoned in longs, cut to 32 bits. */
    private static int drawnDue(int seed) {
        int due = 0;
        long z = seed & 0xffffffffL;
        for (int hour = 0; hour <= 12; hour++) {
            z = z * 1103515245L + 12345L & 0xffffffffL;
            boolean cloudy = z / 512 % 3 == 0;
            due += cloudy || hour == 6 ? 0 : 1 + hour;
        }
        return due;
    }

    private static ShadowTax owingOneMoreEachHour() {
        ShadowTax x = ruled("4", "1+hour", "0");
        x.thing(5, 0, 0);
        return x;
    }

    private static void termsOfTellings() {
        says(TERMS, "TOLD: a SHEET tells DUE of a THING in HOURS 0 .. 12: the first HOUR that is otherwise; NONE;");
        ShadowTax x = alone();
        for (int hour = 0; hour <= 12; hour++) {
            x.film(0, 0);
            due("as it is", x.tells(0, 0, 0), NONE);
            x.cell(0, hour, 11);
            due("one otherwise", x.tells(0, 0, 0), hour);
            x.cell(0, 12, 12);
            due("and the last", x.tells(0, 0, 0), hour);
        }

        says(TERMS, "KINDS (bits 0 .. 5), NUMBERS (bits 0 .. 9), HEIGHTS (bits 1 .. 20), CELLS (bits 0 .. 29) of it,");
        x = alone();
        x.set(1, 0, 8191);
        x.film(0, 0);
        int[] all = {63, 1023, (1 << 21) - 2, (1 << 30) - 1};
        for (int what = 1; what <= 4; what++) {
            due("all of " + what, x.tells(0, 0, what), all[what - 1]);
        }
        x.cell(0, 6, 1);
        for (int what = 1; what <= 4; what++) {
            due("none of " + what, x.tells(0, 0, what), 0);
        }
        int[][] ends = {{1, 0, 5}, {2, 0, 9}, {3, 1, 20}, {4, 0, 29}};
        for (int[] end : ends) {
            for (int side = 1; side <= 2; side++) {
                x = ruled("4", "height*3-2-(long=0)*2", "0-number+cell");
                x.thing(end[0] == 1 ? side == 1 ? 0 : 5 : 5, end[0] == 2 ? end[side] : 0, end[0] == 4 ? end[side] : 0);
                x.set(3, 0, end[0] == 3 ? end[side] : 15);
                due("the end is among them", bit(x, end[0], end[side]), 1);
            }
        }

        says(TERMS, "CLOUDS (of all sets of 0, 1 or 2 HOURS: how many)");
        x = ruled("4", "hour=2", "0");
        x.thing(0, 0, 0);
        x.film(0, 0);
        due("all but those with 2", x.tells(0, 0, 5), 1 + 12 + 66);
        x.cell(0, 2, 0);
        due("those with 2", x.tells(0, 0, 5), 13);
        x.cell(0, 2, 6);
        due("none", x.tells(0, 0, 5), 0);
        x = ruled("0", "1", "0");
        x.thing(0, 0, 0);
        x.film(0, 0);
        due("all", x.tells(0, 0, 5), 1 + 13 + 78);
        x = ruled("4", "hour=0 or hour=12", "0");
        x.thing(0, 0, 0);
        x.sheet(0, 2, 13);
        due("0 and 12", x.tells(0, 0, 5), 1);
        x = ruled("4", "hour=0 or hour=5 or hour=12", "0");
        x.thing(0, 0, 0);
        x.sheet(0, 2, 13);
        due("three are too many", x.tells(0, 0, 5), 0);
        x.cell(0, 6, 1);
        due("nor by noon", x.tells(0, 0, 5), 0);

        says(TERMS, "TEXTS (bits), were they THE RULE, by which all would be so.");
        x = new ShadowTax();
        for (int text = 1; text <= 5; text++) {
            write(x, "slants 4;dues " + (text == 5 ? "2" : "" + text) + ";sets 0;");
        }
        x.thing(0, 0, 0);
        x.film(0, 0);
        due("0, 2 and 5", x.tells(0, 0, 6), 0b100101);
        x.force(3);
        due("whatever THE RULE is", x.tells(0, 0, 6), 0b100101);
        x.cell(0, 0, 1);
        due("none", x.tells(0, 0, 6), 0);

        says(TERMS, "DRAWN by a SEED: CLOUDS would be the HOURS t such that (z >>> 9) % 3 is 0, z being z * 1103515245 + 12345 "
            + "(an int; SEED at first) anew for each: DAY's.");
        x = owingOneMoreEachHour();
        int[] seeds = {LOW, LOW + 1, -2, -1, 0, 1, 2, HIGH - 1, HIGH, 987654321};
        for (int seed : seeds) {
            due("seed " + seed, x.drawn(seed), drawnDue(seed));
        }
        due("of nobody", new ShadowTax().drawn(HIGH), 0);

        says(TERMS, "IN n seeds (1 .. 20), SEED and each 1 more (an int): of these those by which it is k (0 .. 99999) or more.");
        for (int n = 1; n <= 20; n++) {
            x = owingOneMoreEachHour();
            int[] ks = {0, 1, drawnDue(HIGH), drawnDue(HIGH) + 1, drawnDue(LOW), 85, 99999};
            for (int k : ks) {
                int above = 0;
                for (int i = 0; i < n; i++) {
                    above += drawnDue(HIGH + i) >= k ? 1 : 0;
                }
                due("the share of " + n + " at " + k, x.chance(HIGH, n, k, 0) * n, x.chance(HIGH, n, k, 1) * above);
            }
        }

        says(TERMS, "AN IMAGE keeps THE DAY, CLOUDS, NUMBERS, HEIGHTS, CELLS of THINGS, THE RULE (THINGS that came since go).");
        x = new ShadowTax();
        x.image();
        for (int turn = 0; turn < 3; turn++) {
            for (int i = 0; i < 8; i++) {
                due("came", x.thing((i + turn) % 6, 9 - i, i), i);
            }
            due("a ninth", x.thing(0, 0, 0), FULL);
            due("all go", x.back(), 0);
            due("nobody", x.told(0, 2), BAD);
        }
        due("five high anew", x.thing(0, 0, 0), 0);
        due("five", x.told(0, 3), 5);

        says(TERMS, "==== 3 SHEETS 0 .. 3 are rows of numbers, or missing (as all are at first): of sort 0 bytes, 1 shorts, "
            + "2 ints.");
        x = new ShadowTax();
        for (int sheet = 0; sheet <= 3; sheet++) {
            due("missing at first", x.cell(sheet, 0, 0), MISSING);
            for (int sort = 0; sort <= 2; sort++) {
                due("sheet " + sheet, x.sheet(sheet, sort, 1), 1);
                due("is of its sort", x.things(sheet, sort, 0, 0), 0);
                due("and no other", x.things(sheet, (sort + 1) % 3, 0, 0), UNLIKE);
            }
        }
        for (int off : outside(0, 3)) {
            due("sheet " + off, x.sheet(off, 0, 1), BAD);
        }
        for (int off : outside(-1, 2)) {
            due("sort " + off, x.sheet(0, off, 1), BAD);
        }
    }

    /** Whether what one is stands among what it could be. */
    private static int bit(ShadowTax x, int what, int v) {
        due("film", x.film(0, 0), 13);
        return x.tells(0, 0, what) >> v & 1;
    }

    // ---- the promises

    private static void promises1To7() {
        says(1, "No THINGS.");
        ShadowTax x = new ShadowTax();
        due("count", x.count(0), 0);
        due("takes", x.takes(NONE), 0);
        due("told", x.told(0, 2), BAD);
        due("image", x.image(), 0);

        says(2, "THE DAY (what 0; of does not matter), CLOUDS (1; nor), NUMBER (2), HEIGHT (3), the CELL (4) of a THING becomes "
            + "v: what it was. BAD.");
        x = new ShadowTax();
        int was = 0;
        for (int of : outside(0, 7)) {
            due("day", x.set(0, of, was + 1), was);
            due("clouds", x.set(1, of, was + 1), was);
            was++;
            for (int what = 2; what <= 4; what++) {
                due("nobody", x.set(what, of, 9), BAD);
            }
        }
        due("nobody yet", x.set(4, 0, 9), BAD);
        x.thing(1, 2, 3);
        for (int off : outside(0, 4)) {
            due("what " + off, x.set(off, 0, 1), BAD);
        }
        due("number", x.set(2, 0, 9), 2);
        due("height", x.set(3, 0, 9), 5);
        due("cell", x.set(4, 0, 9), 3);
        due("one behind the last", x.set(4, 1, 9), BAD);
        due("the same again", x.set(4, 0, 9), 9);

        says(3, "A THING: its number. BAD; FULL.");
        x = row(0, 1, 2, 3, 4, 5, 6, 7);
        due("full", x.thing(0, 0, 0), FULL);
        due("BAD ahead of FULL: kind", x.thing(6, 0, 0), BAD);
        due("BAD ahead of FULL: number", x.thing(0, 10, 0), BAD);
        due("BAD ahead of FULL: cell", x.thing(0, 0, 30), BAD);

        says(4, "What 0 .. 4 as of set(), 5 KIND, 6 whether it HIDES others (1, 0). BAD.");
        x = new ShadowTax();
        x.set(0, 0, 364);
        x.set(1, 0, 8191);
        x.thing(3, 9, 29);
        int[] told = {364, 8191, 9, 5, 29, 3, 0};
        for (int what = 0; what <= 6; what++) {
            due("what " + what, x.told(0, what), told[what]);
            due("of one behind the last", x.told(1, what), what < 2 ? told[what] : BAD);
            for (int of : outside(0, 7)) {
                due("of " + of, x.told(of, what), what < 2 ? told[what] : BAD);
            }
        }
        for (int off : outside(0, 6)) {
            due("what " + off, x.told(0, off), BAD);
        }

        says(5, "A byte (0 .. 255) comes behind THE TAPE: how many it has. BAD; FULL.");
        x = new ShadowTax();
        due("0", x.feed(0), 1);
        due("255", x.feed(255), 2);
        for (int off : outside(0, 255)) {
            due("byte " + off, x.feed(off), BAD);
        }
        for (int i = 3; i <= 160; i++) {
            due("byte", x.feed(i), i);
        }
        due("full", x.feed(0), FULL);
        due("BAD ahead of FULL", x.feed(-1), BAD);
        due("BAD ahead of FULL", x.feed(256), BAD);

        promise6();

        says(7, "A TEXT is THE RULE: which was. BAD.");
        x = new ShadowTax();
        for (int off : outside(0, 5)) {
            due("text " + off, x.force(off), BAD);
        }
        due("one behind the last", x.force(1), BAD);
        due("the same", x.force(0), 0);
        for (int text = 1; text <= 5; text++) {
            due("one behind the last", x.force(text), BAD);
            write(x, "slants 1;dues 1;sets 1;");
            due("the last", x.force(text), text - 1);
        }
        due("none such", x.force(6), BAD);
        due("stays", x.count(4), 5);
    }

    private static void promise6() {
        says(6, "THE TAPE, which is empty then (by a FAULT, too), is a TEXT: its number; -100 less the place of its FAULT.");
        ShadowTax x = new ShadowTax();
        due("empty: at place 0", x.text(), -100);
        due("at place 160", write(x, "slants 1;dues 1;sets 1" + " ".repeat(138)), -260);
        due("empty then", x.count(3), 0);
        due("at its last byte, 159", write(x, "slants 1;dues 1;sets 1;" + " ".repeat(136) + "x"), -259);
        due("empty then", x.count(3), 0);
        due("no text came", x.count(2), 1);
        due("a text", write(x, "slants 1;dues 1;sets 1;"), 1);
        due("empty then", x.count(3), 0);
        due("nothing is left", x.text(), -100);
        due("two texts", x.count(2), 2);
        x = alone();
        String[] faulty = {"slants 40+hour*2;dues 9 or 9;sets )", "slants 1+(2*3;dues 4;sets 5;", "",
            "slants 3*4+5;dues 6+7;sets 8+9", "slants 1;dues 1;sets -9)"};
        for (String text : faulty) {
            due("a fault", write(x, text) <= -100 ? 1 : 0, 1);
        }
        due("a text behind faults", write(x, "slants 8;dues 3;sets 2;"), 1);
        x.force(1);
        due("nothing of them is in it", x.hour(0, 0, 0), 10);
        due("nothing of them is in it", x.hour(0, 0, 2), 28);

        says(6, "FULL (ahead of all): no TEXT more has room (THE TAPE stays).");
        for (int text = 2; text <= 5; text++) {
            due("text", write(x, "slants 1;dues 1;sets 1;"), text);
        }
        due("ahead of an empty tape's fault", x.text(), FULL);
        due("ahead of a fault", write(x, ")"), FULL);
        due("stays", x.count(3), 1);
        due("again", x.text(), FULL);
        due("comes behind it", x.feed('x'), 2);
        due("room for no text", x.count(2), 6);
    }

    private static void promises8To15() {
        says(8, "how LONG its shadow is (what 0; HIDDEN or not; 0: no shadows), whether it is HIDDEN (1; 1, 0), DUE (2). BAD.");
        ShadowTax x = row(15, 16);
        int[] hidden = {5, 1, 0};
        int[] free = {5, 0, 10};
        for (int what = 0; what <= 2; what++) {
            due("hidden", x.hour(0, 5, what), hidden[what]);
            due("free", x.hour(1, 5, what), free[what]);
            due("free", x.hour(0, 7, what), free[what]);
            due("no shadows", x.hour(0, 6, what), 0);
        }
        notThese(x, 0);

        says(9, "TAKES of an HOUR (NONE: DAY's). BAD.");
        x = alone();
        for (int off : outside(-1, 12)) {
            due("hour " + off, x.takes(off), BAD);
        }
        due("NONE", x.takes(NONE), 120);
        due("the last", x.takes(12), 10);

        says(10, "DARK. BAD.");
        for (int off : outside(0, 12)) {
            due("hour " + off, x.dark(off), BAD);
        }
        due("the first", x.dark(0), 0b11111 << 10);

        says(11, "MOST HOUR (what 0), what it TAKES (1), FAIREST (2; NONE), how far apart (3; NONE). BAD.");
        for (int off : outside(0, 3)) {
            due("what " + off, x.hours(off), BAD);
        }
        x = new ShadowTax();
        int[] ofNobody = {0, 0, NONE, NONE};
        int[] ofOne = {0, 10, 0, 0};
        for (int what = 0; what <= 3; what++) {
            due("of nobody", x.hours(what), ofNobody[what]);
            due("of one", alone().hours(what), ofOne[what]);
        }
        due("none", x.count(0), 0);

        says(12, "BEST CELL (what 0), DUE then (1). BAD.");
        x = row(15, 29);
        due("hidden by the last", x.best(0, 0, 0), 24);
        due("then", x.best(0, 0, 1), 0);
        due("no shadows", x.best(0, 6, 0), 0);
        notThese(x, 1);

        says(13, "PLACE (what 0), what the HOUR TAKES then (1). BAD.");
        due("hidden by the last", x.place(0, 0, 0), 24);
        due("then", x.place(0, 0, 1), 10);
        due("no shadows", x.place(0, 6, 1), 0);
        notThese(x, 2);

        says(14, "SHADE (what 0; NONE), DUE then (1; as now, if none). BAD.");
        due("none", x.shade(0, 0, 0), NONE);
        due("as now", x.shade(0, 0, 1), 10);
        x.set(4, 0, 28);
        due("by the other", x.shade(0, 0, 0), 1);
        due("then", x.shade(0, 0, 1), 10);
        due("none at noon", x.shade(0, 6, 0), NONE);
        notThese(x, 3);

        says(15, "SEND AWAY (what 0; NONE), by how much all others owe less (1; 0). BAD.");
        due("none", x.send(0, 0), NONE);
        due("0", x.send(0, 1), 0);
        for (int off : outside(0, 1)) {
            due("what " + off, x.send(0, off), BAD);
        }
        for (int off : outside(0, 12)) {
            due("hour " + off, x.send(off, 1), BAD);
        }
    }

    /** Calls of a THING, an HOUR and a what, on a square with two THINGS: none other than these is answered. */
    private static void notThese(ShadowTax x, int call) {
        for (int off : outside(0, 7)) {
            due("thing " + off, ask(x, call, off, 0, 0), BAD);
        }
        due("one behind the last", ask(x, call, 2, 0, 0), BAD);
        for (int off : outside(0, 12)) {
            due("hour " + off, ask(x, call, 1, off, 0), BAD);
        }
        for (int off : outside(0, call == 0 ? 2 : 1)) {
            due("what " + off, ask(x, call, 1, 0, off), BAD);
        }
        due("nobody", ask(new ShadowTax(), call, 0, 0, 0), BAD);
    }

    private static int ask(ShadowTax x, int call, int thing, int hour, int what) {
        return switch (call) {
            case 0 -> x.hour(thing, hour, what);
            case 1 -> x.best(thing, hour, what);
            case 2 -> x.place(thing, hour, what);
            default -> x.shade(thing, hour, what);
        };
    }

    private static void promises16To22() {
        says(16, "BAD: SHEET, no such THING, what; -11; BAD: it doesn't tell 13.");
        ShadowTax x = alone();
        x.sheet(1, 0, 12);
        x.sheet(2, 1, 14);
        x.sheet(3, 2, 13);
        for (int what = 0; what <= 6; what++) {
            for (int off : outside(0, 3)) {
                due("sheet " + off, x.tells(off, 0, what), BAD);
            }
            for (int off : outside(0, 0)) {
                due("thing " + off + ", ahead of a missing sheet", x.tells(0, off, what), BAD);
                due("thing " + off, x.tells(3, off, what), BAD);
            }
            due("missing", x.tells(0, 0, what), MISSING);
            due("12", x.tells(1, 0, what), BAD);
            due("14", x.tells(2, 0, what), BAD);
            due("13", x.tells(3, 0, what) == BAD ? 1 : 0, 0);
        }
        for (int off : outside(0, 6)) {
            due("what " + off + ", ahead of a missing sheet", x.tells(0, 0, off), BAD);
            due("what " + off, x.tells(3, 0, off), BAD);
        }
        int[] sizes = {0, 1, 26, 39, 40};
        for (int size : sizes) {
            x.sheet(0, 2, size);
            due("tells " + size, x.tells(0, 0, 0), BAD);
        }
        for (int sort = 0; sort <= 2; sort++) {
            x.sheet(0, sort, 13);
            due("tells 13 of sort " + sort, x.tells(0, 0, 0), 0);
        }
        due("nobody to tell of", new ShadowTax().tells(0, 0, 0), BAD);

        says(17, "A SHEET truly becomes DUE of a THING in HOURS 0 .. 12 (ints): 13. BAD.");
        x = ruled("40", "40", "0");
        x.thing(4, 0, 15);
        int[][] before = {{-1, 0}, {0, 0}, {0, 13}, {1, 40}, {2, 13}};
        for (int[] sheet : before) {
            x.sheet(0, sheet[0], sheet[1]);
            due("film", x.film(0, 0), 13);
            due("tells 2320", x.tells(0, 0, 0), NONE);
            due("the last", x.cell(0, 12, 2320), 1);
            due("the end", x.cell(0, 13, 0), OUTSIDE);
            due("ints", x.things(0, 2, 0, 0), 0);
        }
        for (int off : outside(0, 3)) {
            due("sheet " + off, x.film(off, 0), BAD);
        }
        for (int off : outside(0, 0)) {
            due("thing " + off, x.film(1, off), BAD);
        }
        due("is missing still", x.cell(1, 0, 0), MISSING);
        due("one, nobody", new ShadowTax().film(0, 0), BAD);

        says(18, "DRAWN.");
        due("none is refused", x.drawn(LOW) >= 0 && x.drawn(HIGH) >= 0 ? 1 : 0, 1);
        due("of nobody", new ShadowTax().drawn(LOW), 0);

        promise19();

        says(20, "AN IMAGE is kept: how many THINGS.");
        x = new ShadowTax();
        for (int i = 0; i <= 8; i++) {
            due("image", x.image(), i);
            x.thing(0, 0, i);
        }
        due("the last is kept", x.back(), 8);

        says(21, "All that it keeps is as in THE IMAGE: how many THINGS. STATE: there is none.");
        x = row(1, 2, 3);
        due("none", x.back(), STATE);
        due("nobody went", x.count(0), 3);
        x.set(0, 0, 5);
        due("day stays", x.told(0, 0), 5);
        due("of nobody", new ShadowTax().back(), STATE);
        due("image", x.image(), 3);
        due("back", x.back(), 3);
        due("and again", x.back(), 3);

        says(22, "How many: 0 THINGS, 1 HOURS with CLOUDS, 2 TEXTS, 3 bytes of THE TAPE, 4 THE RULE. BAD.");
        x = new ShadowTax();
        int[] first = {0, 0, 1, 0, 0};
        for (int what = 0; what <= 4; what++) {
            due("at first", x.count(what), first[what]);
        }
        for (int off : outside(0, 4)) {
            due("what " + off, x.count(off), BAD);
        }
        x.set(1, 0, 8191);
        due("all hours", x.count(1), 13);
    }

    private static void promise19() {
        says(19, "part 0 above, 1 below the line, in lowest terms. NO: n, k, part.");
        ShadowTax x = alone();
        for (int n = 1; n <= 20; n++) {
            due("all: above", x.chance(7, n, 0, 0), 1);
            due("all: below", x.chance(7, n, 0, 1), 1);
            due("none: above", x.chance(7, n, 99999, 0), 0);
            due("none: below", x.chance(7, n, 99999, 1), 1);
        }
        int[] parts = {0, 1};
        for (int part : parts) {
            for (int off : outside(1, 20)) {
                due("n " + off, x.chance(0, off, 0, part), NO);
            }
            for (int off : outside(0, 99999)) {
                due("k " + off, x.chance(0, 1, off, part), NO);
            }
        }
        for (int off : outside(0, 1)) {
            due("part " + off, x.chance(0, 1, 0, off), NO);
        }
        boolean shortened = false;
        for (int k = 10; k <= 120; k += 10) {
            int above = 0;
            for (int seed = HIGH - 9; seed != LOW + 10; seed++) {
                above += x.drawn(seed) >= k ? 1 : 0;
            }
            int common = 20;
            while (above % common != 0 || 20 % common != 0) {
                common--;
            }
            shortened |= common > 1 && common < 20;
            due("above at " + k, x.chance(HIGH - 9, 20, k, 0), above / common);
            due("below at " + k, x.chance(HIGH - 9, 20, k, 1), 20 / common);
        }
        due("one was shortened", shortened ? 1 : 0, 1);
    }

    private static void promises23To27() {
        says(23, "A SHEET becomes a row of n of a sort, all 0, or missing (sort -1: n does not matter): 1. BAD: no such SHEET, "
            + "sort; n above 40; -14.");
        ShadowTax x = alone();
        x.set(1, 0, 8191);
        for (int sort = 0; sort <= 2; sort++) {
            for (int n = 0; n <= 40; n++) {
                due("row", x.sheet(sort, sort, n), 1);
            }
            due("the last of 40", x.cell(sort, 39, 1), 1);
            due("the end", x.cell(sort, 40, 1), OUTSIDE);
            for (int off : outside(0, 40)) {
                due("n " + off, x.sheet(sort, sort, off), off > 40 ? BAD : BELOW);
            }
            due("stays", x.cell(sort, 39, 1), 1);
            x.sheet(sort, sort, 13);
            x.cell(sort, 12, 1);
            due("not all 0", x.tells(sort, 0, 0), 12);
            x.sheet(sort, sort, 13);
            due("all 0", x.tells(sort, 0, 0), NONE);
        }
        x.sheet(0, 2, 0);
        due("a row of none has no item", x.cell(0, 0, 1), OUTSIDE);
        for (int off : outside(0, 40)) {
            x.sheet(0, 2, 3);
            due("missing, n " + off, x.sheet(0, -1, off), 1);
            due("is missing", x.cell(0, 0, 1), MISSING);
            due("sheet and n " + off, x.sheet(4, 0, off), BAD);
            due("sort ahead of n " + off, x.sheet(1, 3, off), BAD);
        }
        due("missing again", x.sheet(0, -1, 0), 1);

        promise24();
        promise25();
        promise26();

        says(27, "A THING taken for one of KIND k (0 .. 5), or one under that one (also by others between): its NUMBER. BAD: k; "
            + "-11: no such THING; -13.");
        x = new ShadowTax();
        for (int kind = 0; kind <= 5; kind++) {
            x.thing(kind, kind + 4, 0);
        }
        String[] above = {"0", "01", "02", "013", "024", "05"};
        for (int kind = 0; kind <= 5; kind++) {
            for (int k = 0; k <= 5; k++) {
                due(kind + " as " + k, x.taken(kind, k), above[kind].indexOf('0' + k) >= 0 ? kind + 4 : UNLIKE);
            }
            for (int off : outside(0, 5)) {
                due("k " + off, x.taken(kind, off), BAD);
                due("k ahead of the thing", x.taken(off, off), BAD);
                due("thing " + off, x.taken(off == 7 ? 6 : off, kind), MISSING);
            }
        }
        due("one behind the last", x.taken(6, 0), MISSING);
        due("nobody", new ShadowTax().taken(0, 0), MISSING);
    }

    private static void promise24() {
        says(24, "Item i of a SHEET becomes v (of bytes, shorts its lowest 8, 16 bits): 1. BAD: no such SHEET; -11; -12.");
        ShadowTax x = row(15);
        for (int off : outside(0, 3)) {
            due("sheet " + off, x.cell(off, 0, 0), BAD);
        }
        due("missing, ahead of outside", x.cell(0, -1, 0), MISSING);
        for (int size = 0; size <= 40; size += 8) {
            x.sheet(0, 1, size);
            for (int off : outside(0, size - 1)) {
                due("item " + off + " of " + size, x.cell(0, off, 0), OUTSIDE);
            }
            due("the last", x.cell(0, size - 1, 0), size == 0 ? OUTSIDE : 1);
        }
        // What an item is, told by whether it is 10, the due of the thing.
        int[][] cuts = {
            {0, 10, 1}, {0, 266, 1}, {0, -246, 1}, {0, 0x7fffff0a, 1}, {0, LOW + 10, 1}, {0, 11, 0},
            {1, 10, 1}, {1, 266, 0}, {1, 65546, 1}, {1, 10 - 65536, 1}, {1, LOW + 10, 1}, {1, -246, 0},
            {2, 10, 1}, {2, 266, 0}, {2, 65546, 0}, {2, LOW + 10, 0}};
        for (int[] cut : cuts) {
            x.sheet(0, cut[0], 13);
            for (int i = 0; i <= 12; i++) {
                x.cell(0, i, i == 6 ? 0 : 10);
            }
            due("becomes", x.cell(0, 12, cut[1]), 1);
            due(cut[1] + " of sort " + cut[0], x.tells(0, 0, 0), cut[2] == 1 ? NONE : 12);
            x = row(15);
        }
    }

    private static void promise25() {
        says(25, "n numbers of a SHEET, from item i on, come to another one's item j on (as they were): n. BAD: no such SHEET; "
            + "-11; -13: they are of unlike sorts; -12 (also with n below 0).");
        ShadowTax x = new ShadowTax();
        for (int off : outside(0, 3)) {
            due("sheet " + off, x.copy(off, 0, 0, 0, 0), BAD);
            due("other " + off + ", ahead of a missing one", x.copy(0, 0, off, 0, 0), BAD);
        }
        due("both missing", x.copy(0, 0, 1, 0, 0), MISSING);
        x.sheet(0, 2, 6);
        x.sheet(1, 1, 6);
        x.sheet(2, 2, 4);
        due("the first is missing, ahead of -12", x.copy(3, -1, 0, 0, -1), MISSING);
        due("the other is missing, ahead of -12", x.copy(0, -1, 3, 0, -1), MISSING);
        due("unlike, ahead of -12", x.copy(0, -1, 1, -1, -1), UNLIKE);
        due("unlike, also of none", x.copy(0, 0, 1, 0, 0), UNLIKE);
        for (int off : outside(0, 6)) {
            due("from " + off, x.copy(0, off, 2, 0, 0), OUTSIDE);
            due("n " + off, x.copy(0, 0, 0, 0, off), OUTSIDE);
        }
        for (int off : outside(0, 4)) {
            due("to " + off, x.copy(0, 0, 2, off, 0), OUTSIDE);
            due("n " + off, x.copy(0, 0, 2, 0, off), OUTSIDE);
        }
        due("one too far in the first", x.copy(0, 4, 2, 0, 3), OUTSIDE);
        due("one too far in the other", x.copy(0, 0, 2, 2, 3), OUTSIDE);
        due("a sum that wraps", x.copy(0, HIGH, 2, 1, HIGH), OUTSIDE);
        due("a sum that wraps", x.copy(0, 2, 2, HIGH, HIGH), OUTSIDE);
        due("none at both ends", x.copy(0, 6, 2, 4, 0), 0);
        due("as many as the other has", x.copy(0, 2, 2, 0, 4), 4);

        // As they were: a row moved within itself, to the east and to the west.
        fill(x, 0, 1, 2, 3, 4, 5, 6);
        due("onto itself", x.copy(0, 0, 0, 0, 6), 6);
        due("to the east", x.copy(0, 0, 0, 1, 5), 5);
        triple(x, 0, 0, 1, 1, 2);
        triple(x, 0, 3, 3, 4, 5);
        due("to the west", x.copy(0, 2, 0, 0, 4), 4);
        triple(x, 0, 0, 2, 3, 4);
        triple(x, 0, 3, 5, 4, 5);
        due("the first stays as it is", x.copy(0, 1, 2, 0, 3), 3);
        triple(x, 2, 0, 3, 4, 5);
        triple(x, 0, 0, 2, 3, 4);
    }

    /** Three numbers of an int row, read back as a thing, which goes again. */
    private static void triple(ShadowTax x, int sheet, int from, int kind, int number, int on) {
        if (x.count(0) == 0) {
            x.image();
        }
        due("read back", x.things(sheet, 2, from, 1), 1);
        due("item " + from, x.told(0, 5), kind);
        due("item " + (from + 1), x.told(0, 2), number);
        due("item " + (from + 2), x.told(0, 4), on);
        due("goes", x.back(), 0);
    }

    private static void promise26() {
        says(26, "from one on, three by three (as of thing()), n of them (0 .. 8): how many came (others are left out).");
        ShadowTax x = new ShadowTax();
        x.sheet(0, 0, 40);
        fill(x, 0, 9, 5, 9, 29, 6, 0, 0, 0, 10, 0, 0, 0, 30, -1, 0, 0, 0, -1, 0, 0, 0, -1, 0, 0, 0);
        due("none", x.things(0, 0, 1, 0), 0);
        due("two of eight", x.things(0, 0, 1, 8), 2);
        due("the ends of all", x.told(0, 5) * 10000 + x.told(0, 2) * 100 + x.told(0, 4), 50929);
        due("the beginnings of all", x.told(1, 5) + x.told(1, 2) + x.told(1, 4), 0);
        due("five high", x.told(1, 3), 5);
        due("the last three", x.things(0, 0, 37, 1), 1);
        due("six have room", x.things(0, 0, 16, 8), 5);
        due("no more has", x.things(0, 0, 16, 8), 0);
        due("eight", x.count(0), 8);

        says(26, "BAD: no such SHEET, sort, n; -13; -11; -12: what stood ahead came.");
        x = new ShadowTax();
        x.sheet(0, 1, 8);
        for (int off : outside(0, 3)) {
            due("sheet " + off, x.things(off, 1, 0, 1), BAD);
        }
        for (int off : outside(0, 2)) {
            due("sort " + off, x.things(0, off, 0, 1), BAD);
            due("sort " + off + " ahead of a missing sheet", x.things(1, off, 0, 1), BAD);
        }
        for (int off : outside(0, 8)) {
            due("n " + off, x.things(0, 1, 0, off), BAD);
            due("n " + off + " ahead of another sort", x.things(0, 2, 0, off), BAD);
        }
        due("another sort, ahead of outside", x.things(0, 0, -1, 1), UNLIKE);
        due("another sort, also of none", x.things(0, 2, 0, 0), UNLIKE);
        due("missing, ahead of outside", x.things(1, 1, -1, 1), MISSING);
        due("missing, also of none", x.things(1, 1, 0, 0), MISSING);
        for (int off : outside(0, 7)) {
            due("from " + off, x.things(0, 1, off, 1), OUTSIDE);
            due("from " + off, x.things(0, 1, off, 8), OUTSIDE);
        }
        due("one short", x.things(0, 1, 6, 1), OUTSIDE);
        due("two short", x.things(0, 1, 7, 1), OUTSIDE);
        due("none came", x.count(0), 0);
        due("the last that has three", x.things(0, 1, 5, 1), 1);
        due("outside behind two", x.things(0, 1, 0, 3), OUTSIDE);
        due("two came", x.count(0), 3);
        x.cell(0, 0, 6);
        due("outside behind two, one of which is none", x.things(0, 1, 0, 8), OUTSIDE);
        due("one came", x.count(0), 4);
        due("a whole step outside", x.things(0, 1, 3, 2), OUTSIDE);
        due("one came", x.count(0), 5);
        x.sheet(2, 1, 0);
        due("of an empty row", x.things(2, 1, 0, 1), OUTSIDE);
        due("none of an empty row", x.things(2, 1, 0, 0), 0);
        x.sheet(2, 1, 9);
        due("three have room", x.things(2, 1, 0, 4), OUTSIDE);
        due("full", x.count(0), 8);
        due("outside, though full", x.things(2, 1, 0, 4), OUTSIDE);
        due("inside, though full", x.things(2, 1, 0, 3), 0);
    }
}
