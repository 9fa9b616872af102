import java.io.IOException;
import java.lang.reflect.InvocationTargetException;
import java.lang.reflect.Method;
import java.lang.reflect.Modifier;
import java.nio.file.Files;
import java.nio.file.Path;
import java.util.ArrayList;
import java.util.List;
import java.util.regex.Matcher;
import java.util.regex.Pattern;

/** What README.md shows is so: the lines of its example are called as they stand there. */
public final class ReadmeTest extends Checks {
    private static final Pattern CALL = Pattern.compile("village\\.(\\w+)\\(([^)]*)\\);(?:\\s*// (-?\\d+)[:,].*)?");

    public static void main(String[] args) {
        String text = readme();
        test("README: each line of the example answers what is said behind it", () -> dueExample(text));
        test("README: the text of commands answers 5 and does the same", ReadmeTest::dueCommands);
        test("README: the words of the book's line", () -> due("line", bookLine(book("n:ab", "d:c")), "n:ab d:c"));
        test("README: each method and constant of the face is told", () -> dueFace(text));
        close();
    }

    private static String readme() {
        try {
            return Files.readString(Path.of("README.md"));
        } catch (IOException missing) {
            return "";
        }
    }

    private static void dueExample(String text) {
        DrownedBells village = new DrownedBells();
        int start = text.indexOf("```java");
        due("an example stands there", start >= 0, true);
        String example = text.substring(start, text.indexOf("```", start + 3));
        int told = 0;
        for (String row : example.split("\n")) {
            Matcher call = CALL.matcher(row);
            if (call.matches()) {
                int answer = answer(village, call.group(1), call.group(2));
                if (call.group(3) != null) {
                    due(row, answer, Integer.parseInt(call.group(3)));
                    told++;
                }
            } else {
                due(row + " is no call", row.contains("village."), false);
            }
        }
        due("lines with an answer", told, 16);
        due("the line", line(village), "ab.c=n0 d1");
        due("depth of the bell c", village.bellOf(2, 0), 1);
    }

    private static int answer(DrownedBells village, String name, String told) {
        List<Object> arguments = new ArrayList<>();
        List<Class<?>> types = new ArrayList<>();
        for (String argument : told.isEmpty() ? new String[0] : told.split(", ")) {
            if (argument.startsWith("'")) {
                arguments.add(argument.charAt(1));
                types.add(char.class);
            } else if (argument.equals("true") || argument.equals("false")) {
                arguments.add(Boolean.valueOf(argument));
                types.add(boolean.class);
            } else {
                arguments.add(Integer.valueOf(argument));
                types.add(int.class);
            }
        }
        try {
            Method method = DrownedBells.class.getMethod(name, types.toArray(new Class<?>[0]));
            return (Integer) method.invoke(village, arguments.toArray());
        } catch (NoSuchMethodException | IllegalAccessException | InvocationTargetException wrong) {
            throw new IllegalStateException(name, wrong);
        }
    }

    private static void dueCommands() {
        DrownedBells village = new DrownedBells();
        due("read", read(village, "word n ab;word d c;ring ab.c;swim 1 0;hang c 4"), 5);
        due("understands", village.understands(0, 0), 0);
        due("needs", village.needs(0, 0), 3);
        due("line", pealLine(village, 0), "ab.c=n0 d1");
    }

    private static void dueFace(String text) {
        for (Method method : DrownedBells.class.getDeclaredMethods()) {
            if (Modifier.isPublic(method.getModifiers())) {
                due(method.getName() + " is told", text.contains("`" + method.getName() + "("), true);
            }
        }
        String[] constants = {"NONE` | -1", "BAD` | -2", "STATE` | -3", "FULL` | -4", "REFUSED` | -5", "NOTHING` | -6"};
        for (String constant : constants) {
            due(constant + " is told", text.contains("| `" + constant), true);
        }
    }
}
