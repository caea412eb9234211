import java.io.IOException;
import java.lang.reflect.Constructor;
import java.lang.reflect.Field;
import java.lang.reflect.Method;
import java.lang.reflect.Modifier;
import java.nio.file.Files;
import java.nio.file.Path;
import java.util.ArrayList;
import java.util.List;
import java.util.regex.Matcher;
import java.util.regex.Pattern;

/** Rules of LANGUAGE.md that a look at the file and at the compiled class can tell. */
final class LanguageTest {
    private static final Path FILE = Path.of("src/main/java/ThreadSlots.java");

    // Stricter than the rules where the class needs nothing of what they allow (imports, try).
    private static final String[] RULED_OUT = {
        "\\bpackage\\b", "\\bimport\\b", "->", "::", "\\btry\\b", "\\bcatch\\b", "\\bfinally\\b", "\\bsynchronized\\b",
        "\\bassert\\b", "\\bvar\\b", "\\bvolatile\\b", "\\bnative\\b", "\\bstatic\\s*\\{", "\\w+Exact\\b", "\\bSystem\\.",
        "\\bRandom\\b", "\\bThread\\b", "\\bequals\\b", "\\bhashCode\\b", "\\btoString\\b", "\\bnull\\b",
        "\\bprotected\\b"};

    private static final Pattern THROW = Pattern.compile("\\bthrow\\b(.*)");
    private static final Pattern WRITTEN_THROW = Pattern.compile(
        " new (IllegalStateException|IllegalArgumentException|IndexOutOfBoundsException)\\(\"\"\\);");
    private static final Pattern OF_LIBRARY = Pattern.compile("\\bMath\\.(\\w+)");

    public static void main(String[] args) throws IOException {
        String code = withoutCommentsAndTexts(Files.readString(FILE));
        for (String word : RULED_OUT) {
            Check.same(word + " in the class", Pattern.compile(word).matcher(code).find(), false);
        }
        checkThrows(code);
        checkLibrary(code);
        List<Class<?>> all = new ArrayList<>(List.of(ThreadSlots.class.getDeclaredClasses()));
        for (Class<?> inner : all) {
            Check.same(inner + " is static", Modifier.isStatic(inner.getModifiers()), true);
            Check.same(inner + " is seen", Modifier.isPublic(inner.getModifiers()), false);
        }
        all.add(ThreadSlots.class);
        Check.same("some twelve classes", all.size() <= 12, true);
        for (Class<?> one : all) {
            checkFields(one);
            checkParameters(one);
        }
        Check.end("LanguageTest");
    }

    private static String withoutCommentsAndTexts(String source) {
        return source.replaceAll("(?s)/\\*.*?\\*/", "").replaceAll("//.*", "").replaceAll("\"[^\"\n]*\"", "\"\"");
    }

    /** Rule 6: new ones of the classes named there, with a written text. */
    private static void checkThrows(String code) {
        Matcher m = THROW.matcher(code);
        int found = 0;
        while (m.find()) {
            found++;
            Check.same("throw" + m.group(1), WRITTEN_THROW.matcher(m.group(1)).matches(), true);
        }
        Check.same("throws are found", found > 0, true);
    }

    /** Rule 4: of the library Math alone, by functions over int and long. */
    private static void checkLibrary(String code) {
        Matcher m = OF_LIBRARY.matcher(code);
        while (m.find()) {
            Check.same("Math." + m.group(1), List.of("floorMod", "max", "min").contains(m.group(1)), true);
        }
    }

    /** Rules 5 and 11: static fields are final numbers, and there are some twenty others at most. */
    private static void checkFields(Class<?> one) {
        int own = 0;
        for (Field f : one.getDeclaredFields()) {
            if (Modifier.isStatic(f.getModifiers())) {
                Check.same(f + " is final", Modifier.isFinal(f.getModifiers()), true);
                Check.same(f + " is a number", f.getType(), int.class);
            } else {
                own++;
            }
        }
        Check.same("fields of " + one, own <= 20, true);
    }

    private static void checkParameters(Class<?> one) {
        for (Method m : one.getDeclaredMethods()) {
            Check.same("parameters of " + m, m.getParameterCount() <= 7, true);
        }
        for (Constructor<?> c : one.getDeclaredConstructors()) {
            Check.same("parameters of " + c, c.getParameterCount() <= 7, true);
        }
    }
}
