import java.lang.reflect.Constructor;
import java.lang.reflect.Field;
import java.lang.reflect.Method;
import java.lang.reflect.Modifier;
import java.nio.file.Files;
import java.nio.file.Path;
import java.util.ArrayList;
import java.util.List;
import java.util.Set;
import java.util.TreeSet;
import java.util.regex.Matcher;
import java.util.regex.Pattern;

/** What of LANGUAGE.md can be seen from the source and the class: its words, its face, its sizes. */
public final class LanguageTest {
    private static final String[] FACE = {
        "int sheet(int,int,int)", "int write(int,int,int)", "int pressure(int,int)", "int point(int,int,int)",
        "long state(int,long,long,int)", "int part(int,int,int)", "int set(int,int,int)", "int clear()",
        "int run(int,long,long)", "long behind(int,int)", "long did(int,int)", "long total(int)", "int round()",
        "int best(int,int)", "int image(int)", "int back(int)", "long joined(int,int,int)", "int count(int)",
        "int status()"};
    private static final String[] BANNED = {"throw", "throws", "try", "catch", "synchronized", "assert", "import",
        "package", "protected", "Exact", "equals", "hashCode", "toString", "BigInteger", "Object", "System", "double",
        "float", "var", "->", "::", "@"};

    private static int passed = 0;
    private static int failed = 0;

    private LanguageTest() {
    }

    private static void good(String what, boolean holds) {
        if (holds) {
            passed++;
        } else {
            failed++;
            System.out.println("does not hold: " + what);
        }
    }

    public static void main(String[] args) throws Exception {
        String code = withoutComments(Files.readString(Path.of("src/main/java/ColdHouse.java")));
        words(code);
        face();
        names();
        loops(code);
        sizes(code);
        System.out.println(passed + " passed, " + failed + " failed");
        if (failed != 0) {
            System.exit(1);
        }
    }

    private static String withoutComments(String text) {
        return text.replaceAll("(?s)/\\*.*?\\*/", "").replaceAll("//[^\\n]*", "");
    }

    private static void words(String code) {
        for (String word : BANNED) {
            boolean isWord = Character.isLetter(word.charAt(0));
            Pattern pattern = Pattern.compile(isWord ? "\\w*\\b" + word + "\\b|\\w+Exact\\b" : Pattern.quote(word));
            good("no '" + word + "'", !pattern.matcher(code).find());
        }
        good("characters of 7 bits", code.chars().allMatch(c -> c < 128));
    }

    private static void face() {
        Set<String> due = new TreeSet<>(List.of(FACE));
        Set<String> seen = new TreeSet<>();
        for (Method m : ColdHouse.class.getDeclaredMethods()) {
            if (Modifier.isPublic(m.getModifiers())) {
                List<String> types = new ArrayList<>();
                for (Class<?> type : m.getParameterTypes()) {
                    types.add(type.getName());
                }
                seen.add(m.getReturnType().getName() + " " + m.getName() + "(" + String.join(",", types) + ")");
            } else {
                good(m.getName() + " is private", Modifier.isPrivate(m.getModifiers()));
            }
        }
        good("the public methods are those of the document: " + seen, seen.equals(due));
        good("the class is public and final", ColdHouse.class.getModifiers() == (Modifier.PUBLIC | Modifier.FINAL));
        Constructor<?>[] constructors = ColdHouse.class.getDeclaredConstructors();
        good("one public constructor", constructors.length == 1 && Modifier.isPublic(constructors[0].getModifiers())
                && constructors[0].getParameterCount() == 0);
        Set<String> constants = new TreeSet<>();
        for (Field f : ColdHouse.class.getDeclaredFields()) {
            if (Modifier.isPublic(f.getModifiers())) {
                constants.add(f.getType() + " " + f.getName());
            } else {
                good(f.getName() + " is private", Modifier.isPrivate(f.getModifiers()));
            }
        }
        good("the public constants", constants.equals(Set.of("int NONE", "long UNSAID")));
    }

    private static void names() {
        Set<String> open = new TreeSet<>();
        for (String method : FACE) {
            open.add(method.replaceAll(".* |\\(.*", ""));
        }
        Class<?>[] inside = ColdHouse.class.getDeclaredClasses();
        good("at most twelve classes", inside.length < 12);
        for (Class<?> one : inside) {
            good(one.getName() + " is static", Modifier.isStatic(one.getModifiers()));
            for (Method m : one.getDeclaredMethods()) {
                good(one.getName() + "." + m.getName() + " bears no public name", !open.contains(m.getName()));
                good(m.getName() + " takes at most seven", m.getParameterCount() <= 7);
            }
            for (Field f : one.getDeclaredFields()) {
                good(f.getName() + " is final, if static", !Modifier.isStatic(f.getModifiers())
                        || Modifier.isFinal(f.getModifiers()));
            }
        }
    }

    /** Every loop here is a for with a counter, so that its end can be seen. */
    private static void loops(String code) {
        good("no while", !Pattern.compile("\\bwhile\\b").matcher(code).find());
        Matcher heads = Pattern.compile("\\bfor \\(([^;]*);([^;]*);([^;{]*)\\) \\{").matcher(code);
        int seen = 0;
        for (int from = 0; heads.find(from); from = heads.end()) {
            seen++;
            good("a counter: " + heads.group(), heads.group(1).matches("int \\w+ = \\w+")
                    && heads.group(2).contains("<") && heads.group(3).matches(" \\w+\\+\\+"));
        }
        good("all loops were seen", seen == code.split("\\bfor \\(", -1).length - 1);
    }

    private static void sizes(String code) {
        int length = 0;
        int longest = 0;
        for (String line : code.split("\n")) {
            boolean head = line.matches(" {4,8}(public|private|static|final|\\w+)[^=;]*\\) \\{");
            length = head ? 0 : length + 1;
            if (line.matches(" {4,8}\\}")) {
                longest = Math.max(longest, length);
            }
        }
        good("methods stay short: " + longest, longest > 5 && longest <= 60);
    }
}
