import java.io.IOException;
import java.lang.reflect.Field;
import java.lang.reflect.Member;
import java.lang.reflect.Method;
import java.lang.reflect.Modifier;
import java.nio.file.Files;
import java.nio.file.Path;
import java.util.Arrays;
import java.util.List;
import java.util.Set;
import java.util.TreeSet;
import java.util.regex.Matcher;
import java.util.regex.Pattern;

/** The document's public face, and those rules of LANGUAGE.md that can be seen from outside. Run at the top. */
public final class FaceTest {
    private static final Check check = new Check();
    private static final Set<String> FACE = new TreeSet<>(List.of(
            "int feed(1)", "int end(1)", "int text(0)", "int fault(0)", "int rule(1)", "int bead(2)", "int knock(2)",
            "int alter(3)", "int drag(1)", "int bind(4)", "int cut(1)", "int hit(2)", "int add(2)", "int drop(1)",
            "int calm(0)", "int ticks(1)", "int runs(2)", "int ahead(3)", "int when(2)", "int rests(0)",
            "int stiff(3)", "int rest(3)", "int kind(3)", "int mass(3)", "int swap(2)", "int miss(2)",
            "long luck(4)", "long mean(3)", "int see(3)", "int forget(1)", "int kinds(1)", "int stiffs(1)",
            "int ask(2)", "int drift(3)", "int keep(1)", "int back(1)", "int sheet(3)", "int lay(3)", "int read(4)",
            "int torn(0)", "int count(1)"));

    public static void main(String[] args) throws IOException {
        face();
        constants();
        classesInside();
        source();
        check.end();
    }

    private static boolean isPrivate(Member m) {
        return Modifier.isPrivate(m.getModifiers());
    }

    private static void face() {
        Set<String> seen = new TreeSet<>();
        for (Method m : SpringBeads.class.getDeclaredMethods()) {
            check.holds(m + " is public or private", isPrivate(m) || Modifier.isPublic(m.getModifiers()));
            if (Modifier.isPublic(m.getModifiers())) {
                seen.add(m.getReturnType() + " " + m.getName() + "(" + m.getParameterCount() + ")");
                check.holds(m + " takes ints", Arrays.stream(m.getParameterTypes()).allMatch(t -> t == int.class));
            }
        }
        check.holds("the face is " + FACE + ", not " + seen, FACE.equals(seen));
        check.due("constructors", SpringBeads.class.getDeclaredConstructors().length, 1);
        check.due("public constructors", SpringBeads.class.getConstructors().length, 1);
        check.holds("the class is public and final", SpringBeads.class.getModifiers() == (Modifier.PUBLIC | Modifier.FINAL));
    }

    private static void constants() {
        Set<String> names = new TreeSet<>();
        for (Field f : SpringBeads.class.getDeclaredFields()) {
            check.holds(f + " is static and final, or not static",
                    !Modifier.isStatic(f.getModifiers()) || Modifier.isFinal(f.getModifiers()));
            if (!isPrivate(f)) {
                names.add(f.getName());
            }
        }
        check.holds("the constants", names.equals(Set.of("BAD", "STATE", "FULL", "NONE")));
    }

    private static void classesInside() {
        Set<String> open = new TreeSet<>();
        for (String call : FACE) {
            open.add(call.substring(call.indexOf(' ') + 1, call.indexOf('(')));
        }
        check.holds("at most twelve classes", SpringBeads.class.getDeclaredClasses().length < 12);
        for (Class<?> c : SpringBeads.class.getDeclaredClasses()) {
            check.holds(c + " is static and not public",
                    Modifier.isStatic(c.getModifiers()) && !Modifier.isPublic(c.getModifiers()));
            long fields = Arrays.stream(c.getDeclaredFields()).filter(f -> !Modifier.isStatic(f.getModifiers())).count();
            check.holds(c + " has at most twenty fields", fields <= 20);
            for (Method m : c.getDeclaredMethods()) {
                check.holds(m + " bears no name of the face", !open.contains(m.getName()));
                check.holds(m + " takes at most seven", m.getParameterCount() <= 7);
            }
        }
        for (Method m : SpringBeads.class.getDeclaredMethods()) {
            check.holds(m + " bears no name of the face", !isPrivate(m) || !open.contains(m.getName()));
        }
    }

    private static void source() throws IOException {
        String whole = Files.readString(Path.of("src/main/java/SpringBeads.java"));
        check.holds("signs 1 to 127", whole.chars().allMatch(c -> c > 0 && c < 128));
        String code = whole.replaceAll("(?s)/\\*.*?\\*/", "").replaceAll("//[^\n]*", "");
        String[] never = {"\\bthrow\\b", "\\btry\\b", "\\bcatch\\b", "\\bsynchronized\\b", "\\bassert\\b", "->", "::",
            "\\bimport\\b", "\\bpackage\\b", "Exact\\(", "\\bdouble\\b", "\\bfloat\\b", "\\bSystem\\b", "\\brecord\\b"};
        for (String word : never) {
            check.holds("no " + word, !Pattern.compile(word).matcher(code).find());
        }
        // All calls of a run share one room: objects are made in constructors alone.
        for (String line : code.split("\n")) {
            if (Pattern.compile("\\bnew\\b").matcher(line).find()) {
                check.holds("made once: " + line.trim(), line.matches("\\s+(private )?final [\\w\\[\\]]+ \\w+ = new .*;"));
            }
        }
        Matcher method = Pattern.compile("(?m)^( {4}| {8})(?:public |private |static )*[\\w\\[\\]]+ \\w+\\([^)]*\\) \\{\n((?:(?!\\1\\}).*\n)*)")
                .matcher(code);
        int methods = 0;
        while (method.find()) {
            methods++;
            check.holds("short: " + method.group().lines().findFirst().orElse(""), method.group(2).lines().count() <= 60);
        }
        check.holds("methods were found", methods > 80);
    }
}
