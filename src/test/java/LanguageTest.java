import java.lang.reflect.Field;
import java.lang.reflect.Method;
import java.lang.reflect.Modifier;
import java.nio.charset.StandardCharsets;
import java.nio.file.Files;
import java.nio.file.Path;
import java.util.ArrayList;
import java.util.List;
import java.util.Set;
import java.util.TreeSet;
import java.util.regex.Matcher;
import java.util.regex.Pattern;

/** Those rules of LANGUAGE.md that a look at the source's lines can tell. Run from the project's folder. */
final class LanguageTest {
    private static final Path SOURCE = Path.of("src/main/java/CharacterSums.java");
    private static final int MOST_METHOD_LINES = 60;
    private static final int MOST_CLASSES = 12;
    private static final int MOST_FIELDS = 20;
    private static final int MOST_PARAMETERS = 7;

    public static void main(String[] args) throws Exception {
        String whole = Files.readString(SOURCE, StandardCharsets.UTF_8);
        String code = withoutTexts(whole);
        signs(whole);
        words(code);
        library(code);
        exceptions(code);
        methodLines(whole.split("\n"));
        sizes();
        Check.finish();
    }

    private static String withoutTexts(String whole) {
        String noComments = whole.replaceAll("(?s)/\\*.*?\\*/", "").replaceAll("//[^\n]*", "");
        return noComments.replaceAll("\"[^\"\n]*\"", "\"\"").replaceAll("'(\\\\.|[^'\n])'", "' '");
    }

    private static Set<String> found(String pattern, String code) {
        Set<String> all = new TreeSet<>();
        Matcher matcher = Pattern.compile(pattern).matcher(code);
        while (matcher.find()) {
            all.add(matcher.group(matcher.groupCount()));
        }
        return all;
    }

    private static void signs(String whole) {
        Check.equal("signs beyond 127", found("[^\\x00-\\x7f]", whole).toString(), "[]");
        Check.equal("a package line", found("(?m)^package .*", whole).toString(), "[]");
    }

    private static void words(String code) {
        String forbidden = "\\b(finally|synchronized|assert|instanceof|double|float|try|catch|var|native|volatile|\\w+Exact"
            + "|getMessage|hashCode|toString|Object)\\b|->|::|static \\{";
        Check.equal("words that the rules leave out", found("(" + forbidden + ")", code).toString(), "[]");
    }

    private static void library(String code) {
        Check.equal("imports", found("import ([\\w.]+);", code).toString(),
            "[java.util.Arrays, java.util.NoSuchElementException]");
        Set<String> used = found("\\b((?:Arrays|System|Math|Integer|Long|String)\\.\\w+)", code);
        used.removeAll(Set.of("Arrays.fill", "System.arraycopy", "Math.min", "Math.max", "Math.abs", "Integer.bitCount"));
        Check.equal("other library", used.toString(), "[]");
    }

    private static void exceptions(String code) {
        Set<String> thrown = found("throw new (\\w+)\\(\"?\"?\\);", code);
        Check.equal("thrown", thrown.toString(), "[IllegalArgumentException, NoSuchElementException]");
        int all = code.split("\\bthrow\\b", -1).length;
        Check.equal("all throws are of that form", all + "", code.split("throw new \\w+\\(\"?\"?\\);", -1).length + "");
    }

    private static void methodLines(String[] lines) {
        int begun = -1;
        for (int i = 0; i < lines.length; i++) {
            if (lines[i].matches("    (    )?[a-zA-Z][^=;]*\\(.*") && !lines[i].endsWith(";")) {
                begun = i;
            } else if (lines[i].matches("    (    )?\\}") && begun >= 0) {
                Check.equal("lines of the method at " + (begun + 1), (i - begun < MOST_METHOD_LINES) + "", "true");
                begun = -1;
            }
        }
    }

    private static void sizes() {
        List<Class<?>> classes = new ArrayList<>(List.of(CharacterSums.class.getDeclaredClasses()));
        classes.add(CharacterSums.class);
        Check.equal("classes", (classes.size() <= MOST_CLASSES) + "", "true");
        for (Class<?> one : classes) {
            int fields = 0;
            for (Field field : one.getDeclaredFields()) {
                boolean fixed = Modifier.isStatic(field.getModifiers());
                fields += fixed ? 0 : 1;
                Check.equal(field + " is final if static", (!fixed || Modifier.isFinal(field.getModifiers())) + "", "true");
            }
            Check.equal("fields of " + one.getName(), (fields <= MOST_FIELDS) + "", "true");
            for (Method method : one.getDeclaredMethods()) {
                Check.equal("parameters of " + method, (method.getParameterCount() <= MOST_PARAMETERS) + "", "true");
            }
        }
    }
}
