import java.lang.reflect.Method;
import java.nio.file.Files;
import java.nio.file.Path;
import java.util.ArrayList;
import java.util.List;
import java.util.regex.Matcher;
import java.util.regex.Pattern;

/** The calls that README.md tells are the document's examples, and the class answers them so. */
final class ReadmeTest {
    private static final String NEW = "a new object";
    private static final Pattern IN_README = Pattern.compile(
            "new LetterShelves\\(\\);|shelves\\.(\\w+)\\(([^()]*)\\); *// (-?\\d+(?:\\.\\d+)?)");
    private static final Pattern IN_DOCUMENT = Pattern.compile(
            "(?m)^- |(\\w+)\\(([^()]*)\\)(?: with [^:;]*)?: (-?\\d+(?:\\.\\d+)?)");
    private static final Pattern CONSTANT = Pattern.compile("(?m)`(\\w+ = -\\d+)`: (.*)$");
    private static final Checks CHECKS = new Checks();

    private ReadmeTest() {
    }

    public static void main(String[] args) throws Exception {
        String readme = Files.readString(Path.of("README.md"));
        String document = Files.readString(Path.of("../shared/DOC.md"));
        callsAreTheDocuments(readme, document);
        codesAreTheDocuments(readme, document);
        answersAreDue(readme);
        CHECKS.end();
    }

    private static String examples(String document) {
        int begin = document.indexOf("\nExamples:");
        int end = document.indexOf("\nThe constants:");
        return begin >= 0 && end > begin ? document.substring(begin, end) : "";
    }

    /** The calls as "put(20): 0", with a line ahead of those of each object. */
    private static List<String> calls(Pattern pattern, String text) {
        List<String> found = new ArrayList<>();
        Matcher matcher = pattern.matcher(text);
        while (matcher.find()) {
            found.add(matcher.group(1) == null ? NEW
                    : matcher.group(1) + "(" + matcher.group(2) + "): " + matcher.group(3));
        }
        return found;
    }

    private static void callsAreTheDocuments(String readme, String document) {
        CHECKS.begin("calls of README.md");
        List<String> due = calls(IN_DOCUMENT, examples(document));
        CHECKS.isTrue("the document has examples", due.size() > 4);
        CHECKS.sameText("all calls", String.join("\n", calls(IN_README, readme)), String.join("\n", due));
        CHECKS.same("lines that call", readme.lines().filter(line -> line.startsWith("    shelves.")).count(),
                due.stream().filter(call -> !call.equals(NEW)).count());
    }

    private static void codesAreTheDocuments(String readme, String document) {
        CHECKS.begin("codes of README.md");
        Matcher matcher = CONSTANT.matcher(document);
        int found = 0;
        while (matcher.find()) {
            found++;
            String row = "\\| `" + matcher.group(1) + "` *\\| " + Pattern.quote(matcher.group(2).trim()) + " *\\|";
            CHECKS.isTrue(matcher.group(1), Pattern.compile(row).matcher(readme).find());
        }
        CHECKS.same("codes", found, 5);
    }

    private static void answersAreDue(String readme) throws Exception {
        CHECKS.begin("answers of README.md");
        LetterShelves shelves = null;
        for (String told : calls(IN_README, readme)) {
            if (told.equals(NEW)) {
                shelves = new LetterShelves();
            } else {
                String call = told.substring(0, told.indexOf(':'));
                CHECKS.sameText(call, String.valueOf(answer(shelves, call)), told.substring(told.indexOf(':') + 2));
            }
        }
    }

    private static Object answer(LetterShelves shelves, String call) throws Exception {
        String name = call.substring(0, call.indexOf('('));
        String inside = call.substring(call.indexOf('(') + 1, call.length() - 1);
        String[] words = inside.isEmpty() ? new String[0] : inside.split(", ");
        for (Method method : LetterShelves.class.getMethods()) {
            if (method.getName().equals(name) && method.getParameterCount() == words.length) {
                return method.invoke(shelves, values(words));
            }
        }
        return "no such call";
    }

    private static Object[] values(String[] words) {
        Object[] values = new Object[words.length];
        for (int index = 0; index < words.length; index++) {
            boolean isNumber = !words[index].equals("true") && !words[index].equals("false");
            values[index] = isNumber ? Integer.valueOf(words[index]) : (Object) Boolean.valueOf(words[index]);
        }
        return values;
    }
}
