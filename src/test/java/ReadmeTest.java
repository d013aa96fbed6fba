import java.io.IOException;
import java.lang.reflect.Method;
import java.lang.reflect.Modifier;
import java.nio.file.Files;
import java.nio.file.Path;
import java.util.ArrayList;
import java.util.List;
import java.util.TreeSet;
import java.util.regex.Matcher;
import java.util.regex.Pattern;

/** README.md: its calls have the answers that it tells, and no call of the face is missing there. */
public final class ReadmeTest {
    private static final Pattern BLOCK = Pattern.compile("(?s)```java\n(.*?)```");
    private static final Pattern PUT = Pattern.compile("put\\(sky, \"([ -~]*)\"\\);");
    private static final Pattern CALL = Pattern.compile("sky\\.(\\w+)\\(([^)]*)\\); *// (-?\\d+)(:.*)?");
    private static final Due due = new Due();
    private static final TreeSet<String> shown = new TreeSet<>();
    private static SkyBulletin sky = null;

    public static void main(String[] args) throws ReflectiveOperationException, IOException {
        String readme = Files.readString(Path.of("README.md"));
        Matcher block = BLOCK.matcher(readme);
        due.is("README.md shows how to type", block.find() ? squeezed(block.group(1)) : "nothing", helper());
        while (block.find()) {
            for (String row : block.group(1).split("\n")) {
                makeRow(row);
            }
        }
        callsAreListed(readme);
        due.end("ReadmeTest");
    }

    static void put(SkyBulletin sky, String text) {
        for (int i = 0; i < text.length(); i += 8) {
            int n = Math.min(8, text.length() - i);
            long characters = 0;
            for (int k = 0; k < n; k++) {
                characters = characters << 8 | text.charAt(i + k);
            }
            sky.type(characters, n);
        }
    }

    /** The source of put(), so that the one that README.md shows is the one that is run here. */
    private static String helper() throws IOException {
        String source = Files.readString(Path.of("src/test/java/ReadmeTest.java"));
        int begin = source.indexOf("    static void put(");
        int end = source.indexOf("\n    }\n", begin) + "\n    }\n".length();
        return squeezed(source.substring(begin, end));
    }

    private static String squeezed(String text) {
        return text.trim().replaceAll("\\s+", " ");
    }

    private static void makeRow(String row) throws ReflectiveOperationException {
        Matcher text = PUT.matcher(row);
        Matcher call = CALL.matcher(row);
        if (row.equals("SkyBulletin sky = new SkyBulletin();")) {
            sky = new SkyBulletin();
        } else if (text.matches()) {
            put(sky, text.group(1));
        } else if (call.matches()) {
            due.is(row, answer(call.group(1), call.group(2)), call.group(3));
            shown.add(call.group(1));
        } else {
            due.is("a row of README.md", row, "a call and its answer");
        }
    }

    private static String answer(String name, String arguments) throws ReflectiveOperationException {
        for (Method method : SkyBulletin.class.getMethods()) {
            if (method.getName().equals(name)) {
                return String.valueOf(method.invoke(sky, values(method, arguments)));
            }
        }
        return "no such call";
    }

    private static Object[] values(Method method, String arguments) {
        List<Object> values = new ArrayList<>();
        for (String one : arguments.isEmpty() ? new String[0] : arguments.split(", ")) {
            boolean wide = method.getParameterTypes()[values.size()] == long.class;
            long value = Long.decode(one.replace("L", ""));
            if (wide) {
                values.add(value);
            } else {
                values.add(Math.toIntExact(value));
            }
        }
        return values.toArray();
    }

    private static void callsAreListed(String readme) {
        for (Method method : SkyBulletin.class.getDeclaredMethods()) {
            if (Modifier.isPublic(method.getModifiers())) {
                String name = method.getName();
                due.is(name + " is shown with an answer", shown.contains(name) ? 1 : 0, 1);
                due.is(name + " is listed", readme.contains("\n- `int " + name + "(") ? 1 : 0, 1);
            }
        }
    }
}
