import java.io.IOException;
import java.lang.reflect.Constructor;
import java.lang.reflect.Field;
import java.lang.reflect.Method;
import java.lang.reflect.Modifier;
import java.nio.file.Files;
import java.nio.file.Path;
import java.util.Arrays;
import java.util.TreeSet;
import java.util.regex.Matcher;
import java.util.regex.Pattern;

/** The public face of the document, and those rules of LANGUAGE.md that can be looked up. */
public final class FaceTest {
    private static final Due due = new Due();

    public static void main(String[] args) throws IOException {
        String methods = "active(int) activeOne(int,int) ceiling(int,int) character(int) check() cloud(int,int) "
                + "from(int,int) group(int,int) least(int) next(int) print() read(int) told(int) type(long,int) "
                + "weather(int,int)";
        due.is("methods", visibleMethods(), new TreeSet<>(Arrays.asList(methods.split(" "))).toString());
        due.is("fields", visibleFields(), "[NONE]");
        due.is("public final", SkyBulletin.class.getModifiers() & (Modifier.PUBLIC | Modifier.FINAL),
                Modifier.PUBLIC | Modifier.FINAL);
        Constructor<?>[] constructors = SkyBulletin.class.getDeclaredConstructors();
        due.is("constructors", constructors.length, 1);
        due.is("constructor's parameters", constructors[0].getParameterCount(), 0);
        due.is("constructor is public", constructors[0].getModifiers(), Modifier.PUBLIC);
        classesInside();
        wordsThatAreRuledOut();
        due.end("FaceTest");
    }

    private static String visibleMethods() {
        TreeSet<String> names = new TreeSet<>();
        for (Method method : SkyBulletin.class.getDeclaredMethods()) {
            if (!Modifier.isPrivate(method.getModifiers())) {
                StringBuilder name = new StringBuilder(method.getName()).append('(');
                for (Class<?> type : method.getParameterTypes()) {
                    name.append(name.charAt(name.length() - 1) == '(' ? "" : ",").append(type.getName());
                }
                names.add(name.append(')').toString());
                due.is(method + " is public and of objects", method.getModifiers(), Modifier.PUBLIC);
                due.is(method + " answers", method.getReturnType().getName(), "int");
            }
        }
        return names.toString();
    }

    private static String visibleFields() {
        TreeSet<String> names = new TreeSet<>();
        for (Field field : SkyBulletin.class.getDeclaredFields()) {
            if (!Modifier.isPrivate(field.getModifiers())) {
                names.add(field.getName());
            }
        }
        return names.toString();
    }

    private static void classesInside() {
        TreeSet<String> publicNames = new TreeSet<>();
        for (Method method : SkyBulletin.class.getDeclaredMethods()) {
            if (Modifier.isPublic(method.getModifiers())) {
                publicNames.add(method.getName());
            }
        }
        for (Class<?> inside : SkyBulletin.class.getDeclaredClasses()) {
            due.is(inside + " is static", Modifier.isStatic(inside.getModifiers()) ? 1 : 0, 1);
            for (Method method : inside.getDeclaredMethods()) {
                due.is(method + " bears a public one's name", publicNames.contains(method.getName()) ? 1 : 0, 0);
            }
        }
    }

    private static void wordsThatAreRuledOut() throws IOException {
        String source = Files.readString(Path.of("src/main/java/SkyBulletin.java"));
        String code = source.replaceAll("(?s)/\\*.*?\\*/", "").replaceAll("//.*", "");
        Matcher word = Pattern.compile("\\b(throw|throws|try|catch|synchronized|assert|import|package|hashCode"
                + "|toString|Object)\\b|->|::").matcher(code);
        due.is("a word that is ruled out", word.find() ? word.group() : "none", "none");
        for (char one : source.toCharArray()) {
            if (one > 126) {
                due.is("a character above 126", one, 126);
            }
        }
    }
}
