import java.lang.reflect.InvocationTargetException;
import java.lang.reflect.Method;
import java.util.ArrayList;
import java.util.List;
import java.util.Set;

/**
 * Calls as texts, like "garden 7; edge 0 1 true; now 3", made on any object that has the face. Short forms:
 * "edges 0-1 1-2" puts several edges in, "times 5 keep" makes a call so often, "grown" grows to the end. A call
 * that is to be refused on the way bears a "!".
 */
final class Script {
    private static final Set<String> CHANGING = Set.of("garden", "edge", "ring", "doubled", "swap", "mend", "aim",
            "grow", "grown", "keep", "back", "knock");

    private Script() {
    }

    static List<String> callsOf(String text) {
        List<String> calls = new ArrayList<>();
        for (String part : text.split(";")) {
            String call = part.trim();
            if (call.startsWith("edges ")) {
                for (String pair : call.substring(6).split(" ")) {
                    calls.add("edge " + pair.replace('-', ' ') + " true");
                }
            } else if (call.startsWith("times ")) {
                String[] words = call.split(" ", 3);
                for (int i = 0; i < Integer.parseInt(words[1]); i++) {
                    calls.add(words[2]);
                }
            } else if (!call.isEmpty()) {
                calls.add(call);
            }
        }
        return calls;
    }

    /** Whether a call only asks, so that it may change nothing. */
    static boolean isAsking(String call) {
        return !CHANGING.contains(call.split(" ")[0]);
    }

    /** Makes all calls; told is the first one that was refused, or not refused, against the text. */
    static String allOf(Object on, List<String> calls) {
        for (String call : calls) {
            boolean isWrong = call.startsWith("!");
            String answer = answer(on, isWrong ? call.substring(1) : call);
            if (isWrong != answer.startsWith("throws.")) {
                return call + " answered " + answer;
            }
        }
        return "";
    }

    static String answer(Object on, String call) {
        if (call.equals("grown")) {
            return grown(on);
        }
        String[] words = call.split(" ");
        Method method = methodOf(on.getClass(), words[0]);
        Object[] with = new Object[words.length - 1];
        for (int i = 0; i < with.length; i++) {
            with[i] = method.getParameterTypes()[i] == int.class ? numberOf(words[i + 1])
                    : (Object) Boolean.valueOf(words[i + 1]);
        }
        try {
            return String.valueOf(method.invoke(on, with));
        } catch (InvocationTargetException e) {
            return "throws." + e.getCause().getClass().getSimpleName();
        } catch (IllegalAccessException e) {
            throw new AssertionError(e);
        }
    }

    private static String grown(Object on) {
        String answer = "0";
        for (int i = 0; i < 200 && answer.equals("0"); i++) {
            answer = answer(on, "grow 400");
        }
        return answer;
    }

    private static Integer numberOf(String word) {
        if (word.equals("MIN")) {
            return Integer.MIN_VALUE;
        }
        return word.equals("MAX") ? Integer.MAX_VALUE : Integer.valueOf(word);
    }

    private static Method methodOf(Class<?> face, String name) {
        for (Method method : face.getDeclaredMethods()) {
            if (method.getName().equals(name) && java.lang.reflect.Modifier.isPublic(method.getModifiers())) {
                return method;
            }
        }
        throw new AssertionError(name);
    }
}
