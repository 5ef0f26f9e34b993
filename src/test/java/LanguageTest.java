import java.io.IOException;
import java.lang.management.ManagementFactory;
import java.lang.reflect.Field;
import java.lang.reflect.Method;
import java.lang.reflect.Modifier;
import java.nio.charset.StandardCharsets;
import java.nio.file.Files;
import java.nio.file.Path;
import java.util.Arrays;
import java.util.List;
import java.util.Set;
import java.util.TreeSet;
import java.util.regex.Matcher;
import java.util.regex.Pattern;

/** The rules of LANGUAGE.md that can be seen from the compiled class, from the source's words, and from what calls make. */
public final class LanguageTest {
    private static final Set<String> FACE = Set.of(
        "int set(int,int,int)", "int thing(int,int,int)", "int told(int,int)", "int feed(int)", "int text()",
        "int force(int)", "int hour(int,int,int)", "int takes(int)", "int dark(int)", "int hours(int)",
        "int best(int,int,int)", "int place(int,int,int)", "int shade(int,int,int)", "int send(int,int)",
        "int tells(int,int,int)", "int film(int,int)", "int drawn(int)", "long chance(int,int,int,int)",
        "int image()", "int back()", "int count(int)", "int sheet(int,int,int)", "int cell(int,int,int)",
        "int copy(int,int,int,int,int)", "int things(int,int,int,int)", "int taken(int,int)");
    private static final Set<String> CONSTANTS = Set.of("NONE", "BAD", "STATE", "FULL", "NO");
    private static int wrong = 0;

    private static void holds(String rule, boolean so) {
        if (!so) {
            wrong++;
            System.out.println("LANGUAGE.md: " + rule);
        }
    }

    public static void main(String[] args) throws IOException {
        face();
        classes();
        source(Path.of(args.length > 0 ? args[0] : "src/main/java/ShadowTax.java"));
        room();
        System.out.println(wrong == 0 ? "the rules are kept" : wrong + " rules are not kept");
        if (wrong != 0) {
            System.exit(1);
        }
    }

    private static void face() {
        Set<String> seen = new TreeSet<>();
        for (Method m : ShadowTax.class.getDeclaredMethods()) {
            if (!Modifier.isPrivate(m.getModifiers())) {
                holds("1: " + m, m.getModifiers() == Modifier.PUBLIC);
                seen.add(m.getReturnType() + " " + m.getName() + "("
                    + String.join(",", Arrays.stream(m.getParameterTypes()).map(Class::getName).toList()) + ")");
            }
        }
        holds("1: methods are " + seen, seen.equals(new TreeSet<>(FACE)));
        for (Field f : ShadowTax.class.getDeclaredFields()) {
            holds("1: field " + f, Modifier.isPrivate(f.getModifiers()) != CONSTANTS.contains(f.getName()));
        }
        holds("1: one constructor", ShadowTax.class.getDeclaredConstructors().length == 1
            && ShadowTax.class.getConstructors().length == 1);
        holds("1: final", Modifier.isFinal(ShadowTax.class.getModifiers()));
    }

    private static void classes() {
        Class<?>[] inside = ShadowTax.class.getDeclaredClasses();
        holds("11: classes", inside.length < 12);
        Set<String> names = new TreeSet<>();
        for (String call : FACE) {
            names.add(call.substring(call.indexOf(' ') + 1, call.indexOf('(')));
        }
        for (Class<?> c : inside) {
            holds("2: static " + c, Modifier.isStatic(c.getModifiers()));
            for (Method m : c.getDeclaredMethods()) {
                holds("1: a public name " + m, !names.contains(m.getName()));
                holds("11: parameters " + m, m.getParameterCount() <= 7);
            }
            fields(c);
        }
        fields(ShadowTax.class);
    }

    private static void fields(Class<?> c) {
        List<Class<?>> constants = List.of(int.class, long.class, boolean.class, char.class, String.class,
            int[].class, long[].class, char[].class, byte[].class);
        int own = 0;
        for (Field f : c.getDeclaredFields()) {
            if (Modifier.isStatic(f.getModifiers())) {
                holds("5: " + f, Modifier.isFinal(f.getModifiers()) && constants.contains(f.getType()));
            } else {
                own++;
            }
        }
        holds("11: fields of " + c, own <= 20);
    }

    private static void source(Path path) throws IOException {
        String text = Files.readString(path, StandardCharsets.ISO_8859_1);
        holds("4: signs are 1 to 127", text.chars().allMatch(c -> c >= 1 && c <= 127));
        String bare = text.replaceAll("(?s)/\\*.*?\\*/", " ").replaceAll("//[^\n]*", " ")
            .replaceAll("\"[^\"\n]*\"", "TEXT").replaceAll("'[^'\n]+'", "SIGN");
        for (String word : List.of("throw", "try", "catch", "synchronized", "assert", "package", "double", "float",
                "Object", "Exception", "Random", "System\\.(?!arraycopy)", "Thread", "native", "static \\{")) {
            holds("no " + word, !Pattern.compile("\\b" + word + "\\b|" + word + "$").matcher(bare).find());
        }
        holds("2: no lambda, no method reference", !bare.contains("->") && !bare.contains("::"));
        Matcher imports = Pattern.compile("import ([^;]*);").matcher(bare);
        while (imports.find()) {
            holds("4: import " + imports.group(1), imports.group(1).equals("java.util.Arrays"));
        }
        methodsAreShort(text.split("\n"));
    }

    /** Methods of the class begin and end four blanks in, those of the classes inside it eight. */
    private static void methodsAreShort(String[] lines) {
        for (String indent : List.of(" ".repeat(4), " ".repeat(8))) {
            int begun = 0;
            for (int i = 0; i < lines.length; i++) {
                if (lines[i].startsWith(indent) && lines[i].endsWith(") {") && lines[i].charAt(indent.length()) != ' ') {
                    begun = i;
                } else if (lines[i].equals(indent + "}") && begun > 0) {
                    holds("11: a method of more than sixty lines ends at " + (i + 1), i - begun < 60);
                    begun = 0;
                }
            }
        }
    }

    /** What calls make is counted in one room for all of them, so they are to make nothing. */
    private static void room() {
        com.sun.management.ThreadMXBean thread = (com.sun.management.ThreadMXBean) ManagementFactory.getThreadMXBean();
        long made = 0;
        for (int turn = 0; turn < 4; turn++) {
            ShadowTax x = new ShadowTax();
            long before = thread.getCurrentThreadAllocatedBytes();
            dearCalls(x);
            made = thread.getCurrentThreadAllocatedBytes() - before;
        }
        holds("12: 512 calls made " + made + " bytes", made < 4096);
    }

    private static void dearCalls(ShadowTax x) {
        String text = "slants hour+cell*0;dues not(height<3)and long or day;sets number-2;";
        for (int i = 0; i < text.length(); i++) {
            x.feed(text.charAt(i));
        }
        x.force(x.text());
        for (int i = 0; i < 8; i++) {
            x.thing(i % 6, i, 3 * i);
        }
        x.image();
        for (int i = 0; i < 40; i++) {
            x.film(0, i % 8);
            x.tells(0, i % 8, i % 7);
            x.best(i % 8, i % 13, 0);
            x.place(i % 8, i % 13, 0);
            x.shade(i % 8, i % 13, 0);
            x.send(i % 13, 0);
            x.chance(i, 20, 100, 0);
            x.sheet(1, i % 3, 40);
            x.things(1, i % 3, 0, 8);
            x.back();
        }
    }
}
