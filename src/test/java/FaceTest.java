import java.lang.reflect.Constructor;
import java.lang.reflect.Field;
import java.lang.reflect.Method;
import java.lang.reflect.Modifier;
import java.nio.file.Files;
import java.nio.file.Path;
import java.util.Arrays;
import java.util.Set;
import java.util.TreeSet;
import java.util.regex.Matcher;
import java.util.regex.Pattern;

/** The public face is the document's, and the source keeps to what can be looked up in it of LANGUAGE.md. */
public final class FaceTest {
    private static final String[] FACE = {
        "int UNKNOWN", "int OUT_OF_RANGE", "int FULL", "int NONE", "SungSlides()",
        "int add(int, int, int, int, boolean)", "int drop()", "int read()", "int set(int, int)",
        "int sing(int, int, int)", "int silence(int, int)", "int singAlong(int, int, int)",
        "int type(char)", "int clearText()", "int undo()", "int keep()", "int restore()",
        "int syllable(int, int)", "int wanted(int)", "int sung(int)", "int lit(int, int)",
        "int phrase(int, int)", "int total(int)",
        "int ifShifted(int, int)", "int bestShift()", "int ifSet(int, int)", "int worst()"
    };

    public static void main(String[] args) throws Exception {
        face();
        privateNames();
        staticFields();
        sizes();
        String source = Files.readString(Path.of("src/main/java/SungSlides.java"));
        words(source.replaceAll("/\\*[^*]*\\*+([^/*][^*]*\\*+)*/|//[^\n]*", " "));
        signs(source);
        lengths(source);
        Check.end();
    }

    private static void face() {
        Set<String> found = new TreeSet<>();
        for (Field field : SungSlides.class.getDeclaredFields()) {
            if (!Modifier.isPrivate(field.getModifiers())) {
                found.add(field.getType().getSimpleName() + " " + field.getName());
            }
        }
        for (Constructor<?> constructor : SungSlides.class.getDeclaredConstructors()) {
            found.add("SungSlides" + parameters(constructor.getParameterTypes()));
        }
        for (Method method : SungSlides.class.getDeclaredMethods()) {
            if (!Modifier.isPrivate(method.getModifiers())) {
                found.add(method.getReturnType().getSimpleName() + " " + method.getName() + parameters(method.getParameterTypes()));
            }
        }
        Check.due("the face", found.toString(), new TreeSet<>(Arrays.asList(FACE)).toString());
        Check.due("public final class", SungSlides.class.getModifiers(), Modifier.PUBLIC | Modifier.FINAL);
        Check.due("UNKNOWN", SungSlides.UNKNOWN, -1);
        Check.due("OUT_OF_RANGE", SungSlides.OUT_OF_RANGE, -2);
        Check.due("FULL", SungSlides.FULL, -3);
        Check.due("NONE", SungSlides.NONE, -5);
    }

    private static String parameters(Class<?>[] types) {
        StringBuilder all = new StringBuilder("(");
        for (Class<?> type : types) {
            all.append(all.length() > 1 ? ", " : "").append(type.getSimpleName());
        }
        return all.append(")").toString();
    }

    private static void privateNames() {
        Set<String> names = new TreeSet<>();
        for (Method method : SungSlides.class.getMethods()) {
            if (method.getDeclaringClass() == SungSlides.class) {
                names.add(method.getName());
            }
        }
        for (Class<?> inside : SungSlides.class.getDeclaredClasses()) {
            Check.due(inside + " is static", Modifier.isStatic(inside.getModifiers()) ? 1 : 0, 1);
            Check.due(inside + " is not public", Modifier.isPublic(inside.getModifiers()) ? 1 : 0, 0);
            for (Method method : inside.getDeclaredMethods()) {
                Check.due(method + " bears a public name", names.contains(method.getName()) ? 1 : 0, 0);
            }
        }
        for (Method method : SungSlides.class.getDeclaredMethods()) {
            boolean isDouble = Modifier.isPrivate(method.getModifiers()) && names.contains(method.getName());
            Check.due(method + " bears a public name", isDouble ? 1 : 0, 0);
        }
    }

    private static void staticFields() {
        for (Field field : SungSlides.class.getDeclaredFields()) {
            int modifiers = field.getModifiers();
            boolean isVariable = Modifier.isStatic(modifiers) && !Modifier.isFinal(modifiers);
            Check.due(field + " is a static variable", isVariable ? 1 : 0, 0);
        }
    }

    private static void sizes() {
        Class<?>[] inside = SungSlides.class.getDeclaredClasses();
        Check.due("at most twelve classes", inside.length < 12 ? 1 : 0, 1);
        sizesOf(SungSlides.class);
        for (Class<?> one : inside) {
            sizesOf(one);
        }
    }

    private static void sizesOf(Class<?> one) {
        int fields = 0;
        for (Field field : one.getDeclaredFields()) {
            fields += Modifier.isStatic(field.getModifiers()) ? 0 : 1;
        }
        Check.due(one + " has at most twenty fields", fields <= 20 ? 1 : 0, 1);
        for (Method method : one.getDeclaredMethods()) {
            Check.due(method + " takes at most seven parameters", method.getParameterCount() <= 7 ? 1 : 0, 1);
        }
    }

    private static void words(String code) {
        String[] forbidden = {
            "\\b(throws?|try|catch|synchronized|assert|import|package|instanceof|while)\\b", "->", "::", "\"", "\\bstatic \\{",
            "\\b(Random|Thread|Object|\\w+Exact)\\b", "@\\w+"
        };
        for (String pattern : forbidden) {
            Check.due("in the source: " + pattern, Pattern.compile(pattern).matcher(code).find() ? 1 : 0, 0);
        }
        Set<String> library = new TreeSet<>(Arrays.asList("Math.abs", "Math.max", "Math.min", "System.arraycopy"));
        Matcher call = Pattern.compile("\\b[A-Z]\\w*[a-z]\\w*\\.\\w+").matcher(code);
        while (call.find()) {
            Check.due("of the library: " + call.group(), library.contains(call.group()) ? 1 : 0, 1);
        }
    }

    private static void signs(String source) {
        String others = source.replaceAll("[\n -~]", "");
        Check.due("signs that are not plain", others, "");
    }

    /** A method goes from a line that ends in ") {", indented by 4 or, in a class inside, by 8, to the "}" below it. */
    private static void lengths(String source) {
        String[] lines = source.split("\n");
        int methods = 0;
        for (int i = 0; i < lines.length; i++) {
            Matcher head = Pattern.compile("( {4}| {8})\\w.*\\) \\{").matcher(lines[i]);
            if (head.matches() && !lines[i].matches(" +(if|for|switch) .*")) {
                int end = i;
                while (end < lines.length && !lines[end].equals(head.group(1) + "}")) {
                    end++;
                }
                methods++;
                Check.due("at most sixty lines: " + lines[i].trim(), end - i < 60 ? 1 : 0, 1);
            }
        }
        Check.due("methods are found", methods > 90 ? 1 : 0, 1);
    }
}
