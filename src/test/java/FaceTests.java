import java.io.IOException;
import java.lang.reflect.Constructor;
import java.lang.reflect.Executable;
import java.lang.reflect.Method;
import java.lang.reflect.Modifier;
import java.nio.file.Files;
import java.nio.file.Path;
import java.util.ArrayList;
import java.util.List;
import java.util.Set;
import java.util.TreeSet;
import java.util.regex.Matcher;
import java.util.regex.Pattern;

/** The class has the face that the document tells, and README.md tells each method of it; its examples answer as it says. */
final class FaceTests {
    private static final Pattern EXAMPLE = Pattern.compile("place\\.(\\w+)\\(([^)]*)\\); +// ([^:;]+)([:;].*)?");
    private static final int METHODS = 26;

    private FaceTests() {
    }

    static void run(Path document, Path readme) throws IOException {
        List<String> told = Files.readAllLines(document);
        List<String> page = Files.readAllLines(readme);
        List<String> face = faceOf(told);
        Checks.same("face: a constructor and methods in the document", face.size(), METHODS + 1);
        sameFace(face);
        methodsOnThePage(face, told, page);
        examples(page);
    }

    // ---- the face

    /** The lines of the document's face, without the signs around them. */
    private static List<String> faceOf(List<String> told) {
        List<String> face = new ArrayList<>();
        for (String line : told) {
            if (line.startsWith("    public ")) {
                face.add(line.trim().replace(";", ""));
            }
        }
        return face;
    }

    private static void sameFace(List<String> face) {
        Set<String> due = new TreeSet<>();
        for (String line : face) {
            due.add(withoutNames(line));
        }
        Set<String> got = new TreeSet<>();
        for (Constructor<?> made : Shortring.class.getDeclaredConstructors()) {
            got.add(signature("Shortring", made));
        }
        for (Method method : Shortring.class.getDeclaredMethods()) {
            if (!Modifier.isPrivate(method.getModifiers())) {
                got.add(signature(method.getReturnType().getSimpleName() + " " + method.getName(), method));
            }
        }
        Checks.same("face: what is not private", got, due);
    }

    /** "public int far(int one, int other)" becomes "public int far(int, int)". */
    private static String withoutNames(String line) {
        return line.replaceAll("(int|boolean) \\w+([,)])", "$1$2");
    }

    private static String signature(String name, Executable of) {
        List<String> takes = new ArrayList<>();
        for (Class<?> type : of.getParameterTypes()) {
            takes.add(type.getSimpleName());
        }
        List<String> thrown = new ArrayList<>();
        for (Class<?> type : of.getExceptionTypes()) {
            thrown.add(type.getSimpleName());
        }
        String head = Modifier.toString(of.getModifiers()) + " " + name + "(" + String.join(", ", takes) + ")";
        return thrown.isEmpty() ? head : head + " throws " + String.join(", ", thrown);
    }

    // ---- the page

    private static void methodsOnThePage(List<String> face, List<String> told, List<String> page) {
        for (String line : face) {
            String about = aboutMethod(page, "`" + line + "`");
            Checks.that("README.md tells " + line, !about.isEmpty());
            for (String refusal : refusalsOf(told, line)) {
                Checks.that("README.md tells of " + line + ": " + refusal, about.contains(refusal));
            }
        }
    }

    /** What the page says of a method, in one line: from its signature to the next method or heading. */
    private static String aboutMethod(List<String> page, String signature) {
        StringBuilder text = new StringBuilder();
        boolean isIn = false;
        for (String line : page) {
            if (line.startsWith("- ") || line.startsWith("#")) {
                isIn = line.endsWith(signature);
            }
            if (isIn) {
                text.append(line.trim()).append(' ');
            }
        }
        return text.toString();
    }

    /** The causes of exceptions that a promise names, like "`IndexOutOfBoundsException` if there is no such KNOT". */
    private static List<String> refusalsOf(List<String> told, String signature) {
        List<String> causes = new ArrayList<>();
        String heading = "`" + signature.replace("public ", "") + "`";
        boolean isIn = false;
        for (String line : told) {
            isIn = line.equals(heading) || isIn && !line.startsWith("## ");
            if (isIn && line.startsWith("Throws ")) {
                causes.add(line.substring("Throws ".length()));
            }
        }
        return causes;
    }

    /** Each example's line bears its answer, up to a colon. */
    private static void examples(List<String> page) {
        Shortring place = null;
        int made = 0;
        for (String line : page) {
            if (line.equals("    Shortring place = new Shortring();")) {
                place = new Shortring();
            } else if (line.startsWith("    place.")) {
                example(place, line.trim());
                made++;
            }
        }
        Checks.that("README.md has examples", made > 0);
    }

    private static void example(Shortring place, String line) {
        Matcher parts = EXAMPLE.matcher(line);
        if (place == null || !parts.matches()) {
            Checks.that("README.md: an object and an answer to " + line, false);
            return;
        }
        String call = parts.group(1) + " " + parts.group(2).replace(",", "");
        String due = parts.group(3).trim().replace("throws ", "throws.");
        Checks.same("README.md: " + line, Script.answer(place, call.trim()), due);
    }
}
