import java.lang.reflect.Constructor;
import java.lang.reflect.Field;
import java.lang.reflect.Member;
import java.lang.reflect.Method;
import java.lang.reflect.Modifier;
import java.nio.file.Files;
import java.nio.file.Path;
import java.util.Arrays;
import java.util.HashSet;
import java.util.Set;
import java.util.TreeSet;
import java.util.regex.Matcher;
import java.util.regex.Pattern;

/** The public face is the document's, and the source keeps to what LANGUAGE.md lets be looked at from outside. */
final class FaceTest {
    private static final String[] CALLS = {
        "int put(int)", "int insert(int, int)", "int take(int)", "int swap(int)", "int mark(int, boolean)",
        "int weight(int)", "int weightAgain(int)", "int bit(int, int)", "long bits(int)",
        "int rank(int, boolean, int)", "int rankAgain(int, boolean, int)", "int select(int, boolean, int)",
        "int placeIn(int, int)", "int quantile(int, int, int)", "int quantileAgain(int, int, int)",
        "int count(int, int, int)", "int lighter(int, int, int)", "int atLeast(int, int, int)", "int find(int, int)",
        "int common(int, int, int)", "int bagOf(int, int)", "int bagAt(int)", "int ranked(int)", "int append(int)",
        "int run()", "int tell()", "int tellRow(int)", "int character(int)", "int reason(boolean)",
        "int account(int)", "int isBalanced()", "double meanWeight()", "float oneShare(int)", "int undo()",
        "int save()", "int restore()"};
    private static final String[] CONSTANTS = {"NONE=-11", "BAD=-12", "FULL=-13", "REFUSED=-14", "NOTHING=-15"};
    private static final String[] UNUSED = {"import", "package", "catch", "throw", "throws", "try", "finally",
        "synchronized", "assert", "protected", "instanceof", "System", "Object", "equals", "hashCode", "toString"};
    private static final Checks CHECKS = new Checks();

    private FaceTest() {
    }

    public static void main(String[] args) throws Exception {
        face();
        inside();
        if (args.length > 0) {
            source(Files.readString(Path.of(args[0])));
        }
        CHECKS.end();
    }

    private static void face() throws Exception {
        CHECKS.begin("face");
        Class<?> type = LetterShelves.class;
        CHECKS.isTrue("public and final", Modifier.isPublic(type.getModifiers()) && Modifier.isFinal(type.getModifiers()));
        Set<String> calls = new TreeSet<>();
        Set<String> names = new HashSet<>();
        for (Method method : type.getDeclaredMethods()) {
            if (Modifier.isPublic(method.getModifiers())) {
                calls.add(told(method));
                names.add(method.getName());
            }
        }
        CHECKS.sameText("calls", calls.toString(), new TreeSet<>(Arrays.asList(CALLS)).toString());
        for (Method method : type.getDeclaredMethods()) {
            CHECKS.isTrue(method + " is public or private", isEither(method) || method.isSynthetic());
            CHECKS.isTrue(method + " has a name of its own",
                    Modifier.isPublic(method.getModifiers()) || !names.contains(method.getName()));
        }
        Set<String> constants = new TreeSet<>();
        for (Field field : type.getDeclaredFields()) {
            CHECKS.isTrue(field + " is public or private", isEither(field));
            if (Modifier.isPublic(field.getModifiers())) {
                CHECKS.isTrue(field + " is a constant", Modifier.toString(field.getModifiers()).equals("public static final"));
                constants.add(field.getName() + "=" + field.getInt(null));
            }
        }
        CHECKS.sameText("constants", constants.toString(), new TreeSet<>(Arrays.asList(CONSTANTS)).toString());
        Constructor<?>[] makers = type.getDeclaredConstructors();
        CHECKS.isTrue("one constructor", makers.length == 1 && makers[0].getParameterCount() == 0
                && Modifier.isPublic(makers[0].getModifiers()));
    }

    private static void inside() {
        CHECKS.begin("classes inside");
        Class<?>[] types = LetterShelves.class.getDeclaredClasses();
        CHECKS.isTrue("some twelve classes", types.length < 12);
        for (Class<?> type : types) {
            CHECKS.isTrue(type + " is private", Modifier.isPrivate(type.getModifiers()));
            CHECKS.isTrue(type + " is static", Modifier.isStatic(type.getModifiers()));
            for (Method method : type.getDeclaredMethods()) {
                CHECKS.isTrue(method + " has a name of its own",
                        Arrays.stream(CALLS).noneMatch(call -> call.contains(" " + method.getName() + "(")));
            }
            for (Field field : type.getDeclaredFields()) {
                CHECKS.isTrue(field + " is no static state",
                        !Modifier.isStatic(field.getModifiers()) || Modifier.isFinal(field.getModifiers()));
            }
        }
    }

    private static void source(String source) {
        CHECKS.begin("source");
        String bare = source.replaceAll("(?s)/\\*.*?\\*/", " ").replaceAll("//[^\n]*", " ")
                .replaceAll("\"[^\"\n]*\"", "\"\"");
        Set<String> words = new HashSet<>();
        Matcher matcher = Pattern.compile("[A-Za-z_]\\w*").matcher(bare);
        while (matcher.find()) {
            words.add(matcher.group());
        }
        for (String word : UNUSED) {
            CHECKS.isTrue("the source does without " + word, !words.contains(word));
        }
        for (String line : bare.split("\n")) {
            CHECKS.isTrue("nothing is made by a call, but with the object: " + line.trim(), !line.contains("new ")
                    || line.contains("private final") || line.contains("kept[slot] = new Letters()"));
        }
        CHECKS.isTrue("no lambda", !bare.contains("->"));
        CHECKS.isTrue("no method reference", !bare.contains("::"));
        CHECKS.isTrue("signs 1 to 127", source.chars().allMatch(sign -> sign > 0 && sign < 128));
    }

    private static boolean isEither(Member member) {
        return Modifier.isPublic(member.getModifiers()) || Modifier.isPrivate(member.getModifiers());
    }

    private static String told(Method method) {
        StringBuilder told = new StringBuilder(method.getReturnType().getSimpleName());
        told.append(' ').append(method.getName()).append('(');
        for (Class<?> parameter : method.getParameterTypes()) {
            told.append(told.charAt(told.length() - 1) == '(' ? "" : ", ").append(parameter.getSimpleName());
        }
        return told.append(')').toString();
    }
}
