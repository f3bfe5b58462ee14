import java.io.IOException;
import java.lang.reflect.Constructor;
import java.lang.reflect.Field;
import java.lang.reflect.Method;
import java.lang.reflect.Modifier;
import java.nio.file.Files;
import java.nio.file.Path;
import java.util.ArrayList;
import java.util.HashSet;
import java.util.List;
import java.util.Set;
import java.util.regex.Matcher;
import java.util.regex.Pattern;

/** The rules of LANGUAGE.md that can be seen in the source or in the compiled classes. */
public final class LanguageTest {
    private static final Path SOURCE = Path.of("src/main/java/PairSymbols.java");
    private static final String[] FORBIDDEN = {"throw", "throws", "try", "catch", "finally", "synchronized", "assert",
        "package", "protected", "volatile", "transient", "native", "var"};
    private static final Set<String> LIBRARY = Set.of("Arrays.fill", "Arrays.copyOf", "Arrays.copyOfRange",
        "System.arraycopy");
    private static final Due DUE = new Due("LanguageTest");

    public static void main(String[] args) throws IOException {
        String source = Files.readString(SOURCE);
        String code = source.replaceAll("(?s)/\\*.*?\\*/", " ").replaceAll("//[^\n]*", " ")
                .replaceAll("'(\\\\.|[^'\\\\])'", "0").replaceAll("\"(\\\\.|[^\"\\\\])*\"", "0");
        words(code);
        library(code);
        methodsAreShort(source);
        face();
        classes();
        DUE.end();
    }

    private static void words(String code) {
        for (String word : FORBIDDEN) {
            DUE.holds("no '" + word + "'", !Pattern.compile("\\b" + word + "\\b").matcher(code).find());
        }
        DUE.holds("no lambda", !code.contains("->"));
        DUE.holds("no method reference", !code.contains("::"));
        DUE.holds("no Exact", !code.contains("Exact"));
        DUE.holds("no text but in comments", !code.contains("\""));
        DUE.holds("no static initialiser", !Pattern.compile("\\bstatic\\s*\\{").matcher(code).find());
    }

    private static void library(String code) {
        Matcher imports = Pattern.compile("\\bimport\\s+([\\w.]+)").matcher(code);
        while (imports.find()) {
            DUE.holds("import " + imports.group(1), imports.group(1).equals("java.util.Arrays"));
        }
        Matcher calls = Pattern.compile("\\b(Arrays|System|Math|Integer|Long)\\.(\\w+)").matcher(code);
        while (calls.find()) {
            DUE.holds(calls.group(), LIBRARY.contains(calls.group()));
        }
    }

    private static void methodsAreShort(String source) {
        int start = 0;
        String[] lines = source.split("\n");
        for (int k = 0; k < lines.length; k++) {
            if (lines[k].matches(" {4}(    )?\\S.*\\) \\{")) {
                start = k;
            }
            if (lines[k].matches(" {4}(    )?\\}")) {
                DUE.holds("a method of at most 60 lines ends at line " + (k + 1), k - start < 60 || start == 0
                        || lines[start].contains("class"));
            }
            DUE.holds("line " + (k + 1) + " is not too long", lines[k].length() <= 120);
        }
    }

    private static void face() {
        Class<PairSymbols> face = PairSymbols.class;
        DUE.holds("public and final", Modifier.isPublic(face.getModifiers()) && Modifier.isFinal(face.getModifiers()));
        Set<String> names = new HashSet<>(List.of(Calls.NAMES));
        int methods = 0;
        for (Method method : face.getDeclaredMethods()) {
            boolean open = Modifier.isPublic(method.getModifiers());
            methods += open ? 1 : 0;
            DUE.holds(method + " is in its place", open ? names.contains(method.getName())
                    && method.getParameterCount() == Calls.arguments(method.getName())
                    : Modifier.isPrivate(method.getModifiers()) && !names.contains(method.getName()));
        }
        DUE.is("public methods", methods, names.size());
        Constructor<?>[] constructors = face.getDeclaredConstructors();
        DUE.is("constructors", constructors.length, 1);
        DUE.holds("a public constructor", Modifier.isPublic(constructors[0].getModifiers()));
        Set<String> constants = Set.of("NONE", "BAD", "NO", "FULL");
        for (Field field : face.getDeclaredFields()) {
            int m = field.getModifiers();
            DUE.holds(field + " is in its place", constants.contains(field.getName())
                    ? Modifier.isPublic(m) && Modifier.isStatic(m) && Modifier.isFinal(m) : Modifier.isPrivate(m));
        }
        DUE.is("NONE", PairSymbols.NONE, -1);
        DUE.is("BAD", PairSymbols.BAD, -2);
        DUE.is("NO", PairSymbols.NO, -3);
        DUE.is("FULL", PairSymbols.FULL, -4);
    }

    private static void classes() {
        List<Class<?>> all = new ArrayList<>(List.of(PairSymbols.class.getDeclaredClasses()));
        all.add(PairSymbols.class);
        DUE.holds("at most twelve classes", all.size() <= 12);
        for (Class<?> one : all) {
            DUE.holds(one + " is static and not public", one == PairSymbols.class
                    || Modifier.isStatic(one.getModifiers()) && !Modifier.isPublic(one.getModifiers()));
            int fields = 0;
            for (Field field : one.getDeclaredFields()) {
                boolean shared = Modifier.isStatic(field.getModifiers());
                fields += shared ? 0 : 1;
                DUE.holds(field + " is final if it is static", !shared || Modifier.isFinal(field.getModifiers()));
            }
            DUE.holds(one + " has at most twenty fields", fields <= 20);
            for (Method method : one.getDeclaredMethods()) {
                DUE.holds(method + " has at most seven parameters", method.getParameterCount() <= 7);
                DUE.holds(method + " is not a second of a public name", one == PairSymbols.class
                        || !List.of(Calls.NAMES).contains(method.getName()));
            }
        }
    }
}
