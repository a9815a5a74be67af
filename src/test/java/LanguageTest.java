import java.io.IOException;
import java.lang.reflect.Field;
import java.lang.reflect.Method;
import java.lang.reflect.Modifier;
import java.nio.file.Files;
import java.nio.file.Path;
import java.util.ArrayList;
import java.util.Arrays;
import java.util.List;
import java.util.Set;
import java.util.TreeSet;
import java.util.regex.Matcher;
import java.util.regex.Pattern;

/** The rules of LANGUAGE.md that can be seen from the source's words or from the compiled class. */
public final class LanguageTest {
    private static final Set<Class<?>> STATIC_TYPES = Set.of(int.class, long.class, boolean.class, char.class,
        String.class, int[].class, long[].class, char[].class, byte[].class);
    private static final Expect expect = new Expect();

    public static void main(String[] args) throws IOException {
        List<Class<?>> classes = new ArrayList<>(List.of(OrbitBox.class));
        classes.addAll(Arrays.asList(OrbitBox.class.getDeclaredClasses()));
        String source = withoutComments(Files.readString(Path.of("src/main/java/OrbitBox.java")));
        classesInside(classes);
        noPrivateMethodHasAPublicName(classes);
        staticFieldsAreConstants(classes);
        sizes(classes);
        libraryAndExceptions(source);
        wordsLeftOut(source);
        methodsAreShort(source);
        expect.end();
    }

    private static String withoutComments(String source) {
        return source.replaceAll("(?s)/\\*.*?\\*/", "").replaceAll("//[^\n]*", "");
    }

    private static void classesInside(List<Class<?>> classes) {
        expect.sentence("1. ... the classes inside it, which are private or package-visible and static");
        for (Class<?> c : classes.subList(1, classes.size())) {
            int modifiers = c.getModifiers();
            expect.yes(c + " is static", Modifier.isStatic(modifiers));
            expect.no(c + " is public or protected", Modifier.isPublic(modifiers) || Modifier.isProtected(modifiers));
            expect.same("classes inside " + c, c.getDeclaredClasses().length, 0);
        }
    }

    private static void noPrivateMethodHasAPublicName(List<Class<?>> classes) {
        expect.sentence("1. ... No private method bears the name of a public one.");
        Set<String> face = new TreeSet<>();
        for (Method m : OrbitBox.class.getMethods()) {
            face.add(m.getName());
        }
        for (Class<?> c : classes) {
            for (Method m : c.getDeclaredMethods()) {
                expect.no(m + " has a public name", face.contains(m.getName()) && !Modifier.isPublic(m.getModifiers()));
            }
        }
    }

    private static void staticFieldsAreConstants(List<Class<?>> classes) {
        expect.sentence("5. Static fields are final: constants of int, long, boolean, char or String ...");
        for (Class<?> c : classes) {
            for (Field f : c.getDeclaredFields()) {
                if (Modifier.isStatic(f.getModifiers())) {
                    expect.yes(f + " is final", Modifier.isFinal(f.getModifiers()));
                    expect.yes(f + " has a type of a constant", STATIC_TYPES.contains(f.getType()));
                }
            }
        }
    }

    private static void sizes(List<Class<?>> classes) {
        expect.sentence("11. ... at most seven parameters ... some twelve classes, and a class some twenty fields ...");
        expect.yes("twelve classes hold " + classes.size(), classes.size() <= 12);
        for (Class<?> c : classes) {
            long fields = Arrays.stream(c.getDeclaredFields()).filter(f -> !Modifier.isStatic(f.getModifiers())).count();
            expect.yes(c + " has twenty fields, not " + fields, fields <= 20);
            for (Method m : c.getDeclaredMethods()) {
                expect.yes(m + " has seven parameters", m.getParameterCount() <= 7);
            }
        }
    }

    private static void libraryAndExceptions(String source) {
        expect.sentence("4. The library: only what stands here.");
        expect.text("imports", found(source, "(?m)^import [^;]*"), "[import java.util.NoSuchElementException]");
        expect.text("of the library", found(source, "\\b(System|Math|Integer|Long|Arrays|String\\w*|Thread|List)\\.\\w+"),
            "[Integer.bitCount, Math.max, Math.min]");
        expect.sentence("6. Exceptions: throw new E() or throw new E(\"a written text\") ...");
        expect.text("throws", found(source, "\\bthrow [^;]*"), "[throw new NoSuchElementException()]");
    }

    private static void wordsLeftOut(String source) {
        expect.sentence("2., 6., 10. ... no lambda, no method reference ... No synchronized, assert ...");
        expect.text("words", found(source, "->|::|\\b(synchronized|assert|finally|try|catch|instanceof|package"
            + "|native|transient|volatile|strictfp|double|float|protected|var)\\b"), "[]");
        expect.text("static blocks", found(source, "\\bstatic\\s*\\{"), "[]");
    }

    private static void methodsAreShort(String source) {
        expect.sentence("11. ... Methods stay short (some sixty lines) ...");
        Matcher method = Pattern.compile("(?m)^( {4}| {8})\\w[^;{}=]*\\)[^;{}=]*\\{\\n(?s:.*?)^\\1\\}").matcher(source);
        int methods = 0;
        while (method.find()) {
            methods++;
            long lines = method.group().lines().count();
            expect.yes(method.group().lines().findFirst().get().strip() + " has sixty lines, not " + lines, lines <= 60);
        }
        expect.yes("methods are found: " + methods, methods > 100);
    }

    private static String found(String source, String pattern) {
        Set<String> all = new TreeSet<>();
        Matcher matcher = Pattern.compile(pattern).matcher(source);
        while (matcher.find()) {
            all.add(matcher.group());
        }
        return all.toString();
    }
}
