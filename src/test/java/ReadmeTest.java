import java.io.IOException;
import java.lang.reflect.InvocationTargetException;
import java.lang.reflect.Method;
import java.lang.reflect.Modifier;
import java.nio.file.Files;
import java.nio.file.Path;
import java.util.HashSet;
import java.util.List;
import java.util.Set;
import java.util.regex.Matcher;
import java.util.regex.Pattern;

/** README.md's example, read from the file itself: each call answers what stands behind it. */
public final class ReadmeTest {
    private static final Pattern TEXT = Pattern.compile("for \\(char c : \"(.*)\".*");
    private static final Pattern CALL =
            Pattern.compile("rows\\.(\\w+)\\(([^)]*)\\); +// (-?\\d+|true|false)\\b.*");
    private static final Set<String> FRAME = Set.of(
            "RetentionRows rows = new RetentionRows();", "    rows.sign(c);", "}");

    private final RetentionRows rows = new RetentionRows();
    private final Set<String> shown = new HashSet<>();

    public static void main(String[] args) throws IOException {
        new ReadmeTest().go(Files.readAllLines(Path.of("README.md")));
        Checks.end();
    }

    private void go(List<String> lines) {
        int first = lines.indexOf("```java") + 1;
        Checks.is("README.md has an example", first > 0, true);
        for (String line : lines.subList(first, lines.size())) {
            if (line.equals("```")) {
                break;
            }
            follow(line);
        }
        for (Method method : RetentionRows.class.getDeclaredMethods()) {
            if (Modifier.isPublic(method.getModifiers())) {
                Checks.is("the example shows " + method.getName(),
                        shown.contains(method.getName()), true);
            }
        }
    }

    private void follow(String line) {
        Matcher text = TEXT.matcher(line);
        Matcher call = CALL.matcher(line);
        if (text.matches()) {
            Checks.signs(rows, text.group(1));
            shown.add("sign");
        } else if (call.matches()) {
            shown.add(call.group(1));
            Checks.sameText(line, answer(call.group(1), call.group(2)), call.group(3));
        } else {
            Checks.is("this line can be followed: " + line, FRAME.contains(line), true);
        }
    }

    private String answer(String name, String arguments) {
        String[] words = arguments.isEmpty() ? new String[0] : arguments.split(", ");
        Class<?>[] types = new Class<?>[words.length];
        Object[] values = new Object[words.length];
        for (int i = 0; i < words.length; i++) {
            boolean isTruth = words[i].equals("true") || words[i].equals("false");
            types[i] = isTruth ? boolean.class : int.class;
            values[i] = isTruth ? (Object) Boolean.valueOf(words[i]) : Integer.valueOf(words[i]);
        }
        try {
            return RetentionRows.class.getMethod(name, types).invoke(rows, values).toString();
        } catch (NoSuchMethodException | IllegalAccessException | InvocationTargetException e) {
            return e.toString();
        }
    }
}
