import java.nio.charset.StandardCharsets;
import java.nio.file.Files;
import java.nio.file.Path;
import java.util.ArrayList;
import java.util.List;
import java.util.regex.Matcher;
import java.util.regex.Pattern;

/** README.md tells the whole face as the document has it, and its lines answer what it says. */
final class ReadmeTest {
    private static final Pattern METHOD = Pattern.compile("public ((?:int|long|boolean) \\w+\\([^)]*\\))([^;]*);");
    private static final Pattern EXAMPLE = Pattern.compile("(?m)^sums\\.(\\w+)\\(([^)]*)\\); *// (throws \\w+|-?\\d+)");
    private static final int METHODS = 28;
    private static final int EXAMPLES = 8;

    public static void main(String[] args) throws Exception {
        String readme = Files.readString(Path.of("README.md"), StandardCharsets.UTF_8);
        String document = Files.readString(Path.of("../shared/DOC.md"), StandardCharsets.UTF_8);
        face(readme, document);
        exceptions(readme, document);
        example(readme);
        texts(readme);
        Check.equal("how to run the tests", readme.contains("Run `.ci/run`") + "", "true");
        Check.finish();
    }

    /** The line of a table that tells a member, or nothing. */
    private static String row(String readme, String member) {
        for (String line : readme.split("\n")) {
            if (line.startsWith("| `" + member + "` |")) {
                return line;
            }
        }
        return "";
    }

    private static void face(String readme, String document) {
        Check.equal("NONE", row(readme, "NONE").contains(CharacterSums.NONE + "") + "", "true");
        Check.equal("CharacterSums()", row(readme, "CharacterSums()").isEmpty() + "", "false");
        int found = 0;
        Matcher method = METHOD.matcher(document);
        while (method.find()) {
            found++;
            Check.equal(method.group(1) + " is missing", row(readme, method.group(1)).isEmpty() + "", "false");
        }
        Check.equal("methods of the document's face", found + "", METHODS + "");
    }

    private static void exceptions(String readme, String document) {
        Matcher method = METHOD.matcher(document);
        while (method.find()) {
            String line = row(readme, method.group(1));
            for (String name : List.of("NoSuchElementException", "IllegalArgumentException")) {
                boolean due = method.group(2).contains(name);
                Check.equal(name + " of " + method.group(1), line.contains(name) + "", due + "");
            }
        }
    }

    /** Makes the calls of the README's example, one behind the other, on one object. */
    private static void example(String readme) throws Exception {
        CharacterSums sums = new CharacterSums();
        int found = 0;
        Matcher line = EXAMPLE.matcher(readme);
        while (line.find()) {
            found++;
            Check.equal(line.group(), answer(sums, line.group(1), line.group(2)), line.group(3));
        }
        Check.equal("lines of the example", found + "", EXAMPLES + "");
        Check.equal("what is SAID there", readme.contains('"' + Check.spoken(sums, 0) + '"') + "", "true");
    }

    private static String answer(CharacterSums sums, String name, String told) throws Exception {
        List<Object> numbers = new ArrayList<>();
        List<Class<?>> kinds = new ArrayList<>();
        for (String number : told.split(", ")) {
            numbers.add(Integer.decode(number));
            kinds.add(int.class);
        }
        try {
            return "" + CharacterSums.class.getMethod(name, kinds.toArray(new Class<?>[0])).invoke(sums, numbers.toArray());
        } catch (java.lang.reflect.InvocationTargetException thrown) {
            return "throws " + thrown.getCause().getClass().getSimpleName();
        }
    }

    /** The texts that the README shows can all be told. */
    private static void texts(String readme) {
        CharacterSums sums = Check.over(5, 1);
        for (String text : List.of("z5", "g2.1", "j1.2.3", "k1.2", "p2.0", "#3", "-2^2")) {
            Check.equal(text + " stands there", readme.contains("`" + text + "`") + "", "true");
            Check.equal(text + " can be told", (Check.tell(sums, 0, text) >= 0) + "", "true");
        }
        Check.value(sums, "-2^2", "4");
        Check.value(sums, "m3.z", "-11");
        Check.value(sums, "m3.z2", "z6");
    }
}
