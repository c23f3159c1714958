import java.io.IOException;
import java.lang.reflect.Field;
import java.lang.reflect.Member;
import java.lang.reflect.Method;
import java.lang.reflect.Modifier;
import java.nio.file.Files;
import java.nio.file.Path;
import java.util.Arrays;
import java.util.List;
import java.util.Set;
import java.util.TreeSet;
import java.util.regex.Matcher;
import java.util.regex.Pattern;

/** The document's public face, and those rules of LANGUAGE.md that can be seen from outside. Run at the top. */
public final class FaceTest {
    private static final Check check = new Check();
    private static final String SOURCE = "src/main/java/SpringBeads.java";
    private static final Pattern CALL = Pattern.compile("    public (int|long) (\\w+)\\(([^)]*)\\);");
    private static final int CALLS = 41;
    /** The calls as the document's face has them: what each answers, its name, how many numbers it takes. */
    private static final Set<String> FACE = new TreeSet<>();

    public static void main(String[] args) throws IOException {
        List<String> told = faceTold(Files.readString(Path.of("../shared/DOC.md")));
        faceWritten(told);
        promises(told);
        face();
        constants();
        classesInside();
        source();
        check.end();
    }

    private static boolean isPrivate(Member m) {
        return Modifier.isPrivate(m.getModifiers());
    }

    /** The lines of the document's face; its calls are put into FACE. */
    private static List<String> faceTold(String document) {
        int from = document.indexOf("```java\n", document.indexOf("## The public face")) + 8;
        List<String> told = document.substring(from, document.indexOf("```", from)).lines().toList();
        for (String line : told) {
            Matcher call = CALL.matcher(line);
            if (call.matches()) {
                int numbers = call.group(3).isEmpty() ? 0 : call.group(3).split(",").length;
                FACE.add(call.group(1) + " " + call.group(2) + "(" + numbers + ")");
            }
        }
        check.due("calls of the document's face", FACE.size(), CALLS);
        return told;
    }

    /** Each line of the document's face stands in the class, in that order and with those names of numbers. */
    private static void faceWritten(List<String> told) throws IOException {
        List<String> written = Files.readString(Path.of(SOURCE)).lines().filter(line -> line.matches(" {0,4}public .*|\\}"))
                .map(line -> line.replaceFirst("\\) \\{$", ");")).toList();
        check.holds("the face is written as told: " + told + ", not " + written, told.equals(written));
    }

    /** The document's promises are of the calls of its face, one each, and the class bears their numbers. */
    private static void promises(List<String> told) throws IOException {
        String document = Files.readString(Path.of("../shared/DOC.md"));
        String source = Files.readString(Path.of(SOURCE));
        // The class's own line and that of the constants come first, its end last.
        List<String> makers = told.subList(2, told.size() - 1);
        check.due("promises", makers.size(), CALLS + 1);
        for (int i = 0; i < makers.size(); i++) {
            String head = makers.get(i).trim().replaceFirst("^public ", "").replaceFirst(";$", "");
            int title = document.indexOf("## Promise " + (i + 1) + ":");
            check.holds("promise " + (i + 1) + " is of " + head,
                    title >= 0 && document.indexOf("`" + head + "`:", title) == document.indexOf("`", title));
            check.holds(head + " bears the number " + (i + 1),
                    source.contains("    /** " + (i + 1) + ". */\n    public " + head + " {\n"));
        }
    }

    private static void face() {
        Set<String> seen = new TreeSet<>();
        for (Method m : SpringBeads.class.getDeclaredMethods()) {
            check.holds(m + " is public or private", isPrivate(m) || Modifier.isPublic(m.getModifiers()));
            if (Modifier.isPublic(m.getModifiers())) {
                seen.add(m.getReturnType() + " " + m.getName() + "(" + m.getParameterCount() + ")");
                check.holds(m + " takes ints", Arrays.stream(m.getParameterTypes()).allMatch(t -> t == int.class));
            }
        }
        check.holds("the face is " + FACE + ", not " + seen, FACE.equals(seen));
        check.due("constructors", SpringBeads.class.getDeclaredConstructors().length, 1);
        check.due("public constructors", SpringBeads.class.getConstructors().length, 1);
        check.holds("the class is public and final", SpringBeads.class.getModifiers() == (Modifier.PUBLIC | Modifier.FINAL));
    }

    private static void constants() {
        Set<String> names = new TreeSet<>();
        for (Field f : SpringBeads.class.getDeclaredFields()) {
            check.holds(f + " is static and final, or not static",
                    !Modifier.isStatic(f.getModifiers()) || Modifier.isFinal(f.getModifiers()));
            if (!isPrivate(f)) {
                names.add(f.getName());
            }
        }
        check.holds("the constants", names.equals(Set.of("BAD", "STATE", "FULL", "NONE")));
    }

    private static void classesInside() {
        Set<String> open = new TreeSet<>();
        for (String call : FACE) {
            open.add(call.substring(call.indexOf(' ') + 1, call.indexOf('(')));
        }
        check.holds("at most twelve classes", SpringBeads.class.getDeclaredClasses().length < 12);
        for (Class<?> c : SpringBeads.class.getDeclaredClasses()) {
            check.holds(c + " is static and not public",
                    Modifier.isStatic(c.getModifiers()) && !Modifier.isPublic(c.getModifiers()));
            long fields = Arrays.stream(c.getDeclaredFields()).filter(f -> !Modifier.isStatic(f.getModifiers())).count();
            check.holds(c + " has at most twenty fields", fields <= 20);
            for (Method m : c.getDeclaredMethods()) {
                check.holds(m + " bears no name of the face", !open.contains(m.getName()));
                check.holds(m + " takes at most seven", m.getParameterCount() <= 7);
            }
        }
        for (Method m : SpringBeads.class.getDeclaredMethods()) {
            check.holds(m + " bears no name of the face", !isPrivate(m) || !open.contains(m.getName()));
        }
    }

    private static void source() throws IOException {
        String whole = Files.readString(Path.of(SOURCE));
        check.holds("signs 1 to 127", whole.chars().allMatch(c -> c > 0 && c < 128));
        String code = whole.replaceAll("(?s)/\\*.*?\\*/", "").replaceAll("//[^\n]*", "");
        String[] never = {"\\bthrow\\b", "\\btry\\b", "\\bcatch\\b", "\\bsynchronized\\b", "\\bassert\\b", "->", "::",
            "\\bimport\\b", "\\bpackage\\b", "Exact\\(", "\\bdouble\\b", "\\bfloat\\b", "\\bSystem\\b", "\\brecord\\b"};
        for (String word : never) {
            check.holds("no " + word, !Pattern.compile(word).matcher(code).find());
        }
        // All calls of a run share one room: objects are made in constructors alone.
        for (String line : code.split("\n")) {
            if (Pattern.compile("\\bnew\\b").matcher(line).find()) {
                check.holds("made once: " + line.trim(), line.matches("\\s+(private )?final [\\w\\[\\]]+ \\w+ = new .*;"));
            }
        }
        Matcher method = Pattern.compile("(?m)^( {4}| {8})(?:public |private |static )*[\\w\\[\\]]+ \\w+\\([^)]*\\) \\{\n((?:(?!\\1\\}).*\n)*)")
                .matcher(code);
        int methods = 0;
        while (method.find()) {
            methods++;
            check.holds("short: " + method.group().lines().findFirst().orElse(""), method.group(2).lines().count() <= 60);
        }
        check.holds("methods were found", methods > 80);
    }
}
