import java.util.List;

/**
 * A sentence of the document, and calls by which it would be seen if it were broken. Each run of calls has an
 * object of its own; the last call's answer is due, of the program and of the plain model. What is refused or
 * only asks must leave all as it was.
 */
final class Sentence {
    static final String INDEX = "throws.IndexOutOfBoundsException";
    static final String ARGUMENT = "throws.IllegalArgumentException";
    static final String STATE = "throws.IllegalStateException";
    private final String words;
    private String before = "";

    private Sentence(String words) {
        this.words = words;
    }

    static Sentence of(String words) {
        return new Sentence(words);
    }

    /** The calls that stand ahead of all that follow. */
    Sentence after(String calls) {
        before = calls;
        return this;
    }

    Sentence due(String calls, Object answer) {
        List<String> all = Script.callsOf(before + "; " + calls);
        List<String> ahead = all.subList(0, all.size() - 1);
        String last = all.get(all.size() - 1);
        String what = words + " [" + before + "; " + calls + "]";
        Shortring x = new Shortring();
        Checks.same(what + " on the way", Script.allOf(x, ahead), "");
        String got = Script.answer(x, last);
        Checks.same(what, got, String.valueOf(answer));
        if (got.startsWith("throws.") || Script.isAsking(last)) {
            Twins.unchanged(what, x, ahead);
        }
        PlainModel model = new PlainModel();
        Script.allOf(model, ahead);
        Checks.same(what + " by the model", Script.answer(model, last), String.valueOf(answer));
        return this;
    }

    /** Several calls, each alone behind those that stand ahead, that are refused by the same exception. */
    Sentence refused(String exception, String... calls) {
        for (String call : calls) {
            due(call, exception);
        }
        return this;
    }
}
