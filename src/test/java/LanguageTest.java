import java.io.IOException;
import java.lang.reflect.Constructor;
import java.lang.reflect.Field;
import java.lang.reflect.Method;
import java.lang.reflect.Modifier;
import java.nio.file.Files;
import java.nio.file.Path;
import java.util.Arrays;
import java.util.NoSuchElementException;
import java.util.Set;
import java.util.TreeSet;
import java.util.regex.Pattern;

/** The public face is the document's, and the source has none of the signs that LANGUAGE.md bars. */
public final class LanguageTest {
    private static final Set<String> FACE = Set.of(
        "int child(int)", "int consent(int, int)", "int picture(int, int, int)",
        "int face(int, int, int, int, int)", "int set(int, int)", "int count(int)", "int told(int, int)",
        "int name(int, int)", "int seen(int)", "int proof(int, int)", "int shows(int)", "boolean choose(int)",
        "int wrong()", "int best()", "int mend()", "int choices()", "int lacking()", "int fewest()", "int lay()",
        "int page(int)", "int left(int)", "int late(int)", "boolean drop(int)");
    private static final String[] BARRED = {"\\bcatch\\b", "\\btry\\b", "->", "::", "\\bassert\\b", "\\bsynchronized\\b",
        "Exact\\b", "_VALUE\\b", "\\bSystem\\.(?!arraycopy)", "\\bRandom\\b", "\\bThread\\b", "\\bprotected\\b",
        "\\bequals\\b", "\\bhashCode\\b", "\\btoString\\b", "import (?!java\\.util\\.(Arrays|NoSuchElementException);)",
        "^package", "\\bvar\\b", "\\t", "[^\\x00-\\x7F]"};
    private static int wrong;

    public static void main(String[] args) throws IOException, NoSuchMethodException {
        checkMembers();
        checkNames();
        String source = Files.readString(Path.of("src/main/java/YearBook.java"));
        for (String sign : BARRED) {
            if (Pattern.compile(sign, Pattern.MULTILINE).matcher(source).find()) {
                fault("the source has " + sign);
            }
        }
        System.out.println(wrong == 0 ? "the face is the document's" : wrong + " faults");
        if (wrong != 0) {
            System.exit(1);
        }
    }

    private static void fault(String text) {
        wrong++;
        System.out.println(text);
    }

    private static void checkMembers() throws NoSuchMethodException {
        Set<String> found = new TreeSet<>();
        for (Method m : YearBook.class.getDeclaredMethods()) {
            if (!Modifier.isPrivate(m.getModifiers())) {
                String types = Arrays.toString(m.getParameterTypes());
                found.add(m.getReturnType() + " " + m.getName() + "(" + types.substring(1, types.length() - 1) + ")");
            }
        }
        if (!found.equals(FACE)) {
            fault("the methods are " + found);
        }
        for (Field f : YearBook.class.getDeclaredFields()) {
            if (!Modifier.isPrivate(f.getModifiers()) && !f.getName().equals("NONE")) {
                fault("a field that is not private: " + f);
            }
        }
        for (Constructor<?> c : YearBook.class.getDeclaredConstructors()) {
            if (c.getParameterCount() != 0 || !Modifier.isPublic(c.getModifiers())) {
                fault("another constructor: " + c);
            }
        }
        Class<?>[] thrown = YearBook.class.getMethod("told", int.class, int.class).getExceptionTypes();
        if (!Arrays.equals(thrown, new Class<?>[] {NoSuchElementException.class})) {
            fault("told declares " + Arrays.toString(thrown));
        }
        if (YearBook.NONE != -1 || !Modifier.isFinal(YearBook.class.getModifiers())) {
            fault("NONE is not -1, or the class is not final");
        }
    }

    private static void checkNames() {
        Set<String> ofFace = new TreeSet<>();
        FACE.forEach(text -> ofFace.add(text.substring(text.indexOf(' ') + 1, text.indexOf('('))));
        for (Method m : YearBook.class.getDeclaredMethods()) {
            if (Modifier.isPrivate(m.getModifiers()) && ofFace.contains(m.getName())) {
                fault("a private method bears a public one's name: " + m);
            }
        }
        for (Class<?> inside : YearBook.class.getDeclaredClasses()) {
            for (Method m : inside.getDeclaredMethods()) {
                if (ofFace.contains(m.getName())) {
                    fault("a method inside bears a public one's name: " + m);
                }
            }
        }
    }
}
