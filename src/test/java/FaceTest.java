import java.io.IOException;
import java.lang.management.ManagementFactory;
import java.lang.reflect.Field;
import java.lang.reflect.Method;
import java.lang.reflect.Modifier;
import java.nio.file.Files;
import java.nio.file.Path;
import java.util.Arrays;
import java.util.HashSet;
import java.util.Set;
import java.util.TreeSet;

/** The public face, the constants, the rules of the language that can be looked at from here, and the room. */
public final class FaceTest {
    private static final String[] METHODS = {
        "int hang(int,int)", "int splice(int)", "int lay(char)", "int word(int)", "int strike(int)", "int swim(int,int)",
        "int dive(int,int)", "int go(int)", "int ring()", "int bellOf(int,int)", "int wordOf(int,int)",
        "int swimmerOf(int,int)", "int parses(int)", "int parsesAgain(int)", "int draftParses()", "int said(int,int)",
        "int silences(int)", "int signOf(int,int)", "int hears(int,int,int)", "int understands(int,int)",
        "int needs(int,int)", "int echoes(int,int)", "int ranked(int)", "int worn(int)", "int listed(int)",
        "boolean isCounted()", "double meanWear()", "float meantShare()", "int account(int)", "int write(int)",
        "int writeBook()", "int written(int)", "int append(char)", "int read()", "int fault()",
        "int reason(int,boolean)", "int undo()", "int save()", "int restore()"};
    private static final int MOST_CLASSES = 12;
    private static final int MOST_FIELDS = 20;
    private static final int MOST_LINES = 60;

    public static void main(String[] args) {
        Checks.test("the constants", FaceTest::constants);
        Checks.test("promise 1: the face", FaceTest::face);
        Checks.test("LANGUAGE.md, rules 1, 2, 5 and 11: members and classes", FaceTest::members);
        Checks.test("LANGUAGE.md, rules 1, 2, 4, 6, 10 and 13: what the source does without", FaceTest::source);
        Checks.test("LANGUAGE.md, rule 11: short methods", FaceTest::shortMethods);
        Checks.test("the room: 512 of the dearest calls are far within it", FaceTest::room);
        Checks.close();
    }

    private static void constants() {
        Checks.due("NONE", DrownedBells.NONE, -1);
        Checks.due("BAD", DrownedBells.BAD, -2);
        Checks.due("STATE", DrownedBells.STATE, -3);
        Checks.due("FULL", DrownedBells.FULL, -4);
        Checks.due("REFUSED", DrownedBells.REFUSED, -5);
        Checks.due("NOTHING", DrownedBells.NOTHING, -6);
    }

    private static void face() {
        Class<?> type = DrownedBells.class;
        Checks.due("public final", Modifier.isPublic(type.getModifiers()) && Modifier.isFinal(type.getModifiers()), true);
        Checks.due("constructors", type.getDeclaredConstructors().length, 1);
        Checks.due("public constructors of no parameters", type.getConstructors()[0].getParameterCount(), 0);
        Set<String> found = new TreeSet<>();
        for (Method method : type.getDeclaredMethods()) {
            if (!Modifier.isPrivate(method.getModifiers())) {
                Checks.due(method + " is public, of the object", method.getModifiers(), Modifier.PUBLIC);
                Checks.due(method + " declares no exceptions", method.getExceptionTypes().length, 0);
                String parameters = String.join(",", Arrays.stream(method.getParameterTypes()).map(Class::getName).toList());
                found.add(method.getReturnType().getName() + " " + method.getName() + "(" + parameters + ")");
            }
        }
        Checks.due("methods", found.toString(), new TreeSet<>(Arrays.asList(METHODS)).toString());
    }

    private static void members() {
        Set<String> face = new HashSet<>();
        for (String method : METHODS) {
            face.add(method.substring(method.indexOf(' ') + 1, method.indexOf('(')));
        }
        dueFields(DrownedBells.class);
        for (Field field : DrownedBells.class.getDeclaredFields()) {
            boolean isConstant = field.getModifiers() == (Modifier.PUBLIC | Modifier.STATIC | Modifier.FINAL);
            Checks.due(field + " is a constant or private", isConstant || Modifier.isPrivate(field.getModifiers()), true);
        }
        duePrivateNames(DrownedBells.class, face);
        Class<?>[] inside = DrownedBells.class.getDeclaredClasses();
        Checks.due("few classes", inside.length + 1 <= MOST_CLASSES, true);
        for (Class<?> type : inside) {
            Checks.due(type + " is not public", Modifier.isPublic(type.getModifiers()), false);
            dueFields(type);
            duePrivateNames(type, face);
        }
    }

    private static void dueFields(Class<?> type) {
        int many = 0;
        for (Field field : type.getDeclaredFields()) {
            boolean isStatic = Modifier.isStatic(field.getModifiers());
            Checks.due(field + " is final if it is static", !isStatic || Modifier.isFinal(field.getModifiers()), true);
            many += isStatic ? 0 : 1;
        }
        Checks.due(type + " has few fields", many <= MOST_FIELDS, true);
    }

    private static void duePrivateNames(Class<?> type, Set<String> face) {
        for (Method method : type.getDeclaredMethods()) {
            boolean isOfFace = Modifier.isPublic(method.getModifiers());
            Checks.due(method + " has a name of its own", isOfFace || !face.contains(method.getName()), true);
            Checks.due(method + " has few parameters", method.getParameterCount() <= 7, true);
        }
    }

    /** Without comments, and with nothing between quotes. */
    private static String code() {
        try {
            String text = Files.readString(Path.of("src/main/java/DrownedBells.java"));
            text = text.replaceAll("(?s)/\\*.*?\\*/", "").replaceAll("//[^\n]*", "");
            return text.replaceAll("\"[^\"\n]*\"", "\"\"").replaceAll("'[^'\n]+'", "' '");
        } catch (IOException missing) {
            Checks.due("the source can be read", 0, 1);
            return "";
        }
    }

    private static void source() {
        String code = code();
        String[] words = {"package", "finally", "synchronized", "assert", "volatile", "Thread", "hashCode", "getMessage"};
        for (String word : words) {
            Checks.due("the word " + word, code.matches("(?s).*\\b" + word + "\\b.*"), false);
        }
        for (String sign : new String[] {"::", ") ->", "static {", "\"\" +", "+ \"\"", "Exact("}) {
            Checks.due("the sign " + sign, code.contains(sign), false);
        }
        String strange = "(?s).*\\bimport (?!java\\.util\\.).*|(?s).*\\bSystem\\.(?!arraycopy).*|(?s).*\\bMath\\.\\w+Exact.*";
        Checks.due("another library", code.matches(strange), false);
    }

    private static void shortMethods() {
        int start = 0;
        int number = 0;
        for (String line : code().split("\n")) {
            number++;
            if (line.matches(" {4}(    )?\\S.*\\) \\{")) {
                start = number;
            }
            if (line.matches(" {4}(    )?\\}") && start > 0) {
                Checks.due("lines of the method at code line " + start, number - start <= MOST_LINES, true);
                start = 0;
            }
        }
    }

    /** A run has room for 7.3 million fields and elements in 600,000 objects; so many bytes hold no more of either. */
    private static void room() {
        com.sun.management.ThreadMXBean bean = (com.sun.management.ThreadMXBean) ManagementFactory.getThreadMXBean();
        dearRun();
        long before = bean.getCurrentThreadAllocatedBytes();
        long sum = dearRun();
        long made = bean.getCurrentThreadAllocatedBytes() - before;
        Checks.due("calls answer", sum != 0, true);
        Checks.due("an object and 512 calls make less than 7.3 million bytes: " + made, made < 7_300_000, true);
    }

    /** 112 calls, and then 25 rounds of 16. */
    private static long dearRun() {
        DrownedBells x = Checks.withBook();
        for (int swimmer = 0; swimmer < 6; swimmer++) {
            x.swim(1 + swimmer, swimmer);
        }
        for (int peal = 0; peal < 5; peal++) {
            Checks.ring(x, "abcda.ed");
        }
        long sum = 0;
        for (int round = 0; round < 25; round++) {
            x.append('g');
            x.append('o');
            x.append(' ');
            x.append('9');
            sum += x.read() + x.ranked(5) + x.needs(0, 4) + (x.isCounted() ? 1 : 0) + x.write(0) + x.writeBook();
            sum += x.save() + x.restore() + x.hang(0, 1 + (round & 7)) + x.undo() + x.listed(3) + x.worn(4);
        }
        return sum;
    }
}
