import java.lang.reflect.Method;
import java.nio.file.Files;
import java.nio.file.Path;
import java.util.ArrayList;
import java.util.Arrays;
import java.util.HashMap;
import java.util.List;
import java.util.Map;
import java.util.Set;
import java.util.TreeSet;

/**
 * A sentence of the document that names a boundary case, the promises that it binds, and what is due by it.
 *
 * A call is written as a text and then made, so that what a test says and what it asks are one thing.
 * missing() tells which sentences and which promises no call has been asked of.
 */
final class Edge {
    static final int MIN = Integer.MIN_VALUE;
    static final int MAX = Integer.MAX_VALUE;

    /** Promise N is of the Nth; the first is the constructor. */
    private static final List<String> FACE = List.of("BlindFiddles", "feed", "back", "read", "place", "fiddle",
            "person", "sitting", "liking", "taken", "takes", "run", "touch", "gains", "mark", "guess", "annul", "fact",
            "last", "mean", "guesses", "coin", "table", "steady", "steadyWays", "kinds", "kindWays", "flips",
            "flipWays", "small", "knowing", "knowingWays", "spot", "right", "near", "nearWays", "beats", "winner",
            "best", "need", "parts", "next", "say", "turned", "count");
    private static final Map<String, Method> METHODS = new HashMap<>();
    private static final List<Edge> ALL = new ArrayList<>();

    static {
        for (Method method : BlindFiddles.class.getMethods()) {
            METHODS.put(method.getName(), method);
        }
    }

    private final String sentence;
    /** The promise in whose section the sentence stands; 0 of what stands ahead of them all. */
    private final int section;
    /** Promises that no call has been asked of yet. */
    private final Set<Integer> left = new TreeSet<>();
    private int held = 0;

    private Edge(int section, String sentence, int... promises) {
        this.section = section;
        this.sentence = sentence;
        for (int promise : promises) {
            left.add(promise);
        }
        ALL.add(this);
    }

    /** A sentence of a promise's own section. */
    static Edge promise(int promise, String sentence) {
        return new Edge(promise, sentence);
    }

    /** A sentence ahead of the promises, that binds each of these. */
    static Edge term(String sentence, int... promises) {
        return new Edge(0, sentence, promises);
    }

    private static Object valueOf(String text, Class<?> type) {
        if (type == boolean.class) {
            if (!text.equals("true") && !text.equals("false")) {
                throw new IllegalArgumentException(text);
            }
            return text.equals("true");
        }
        return text.equals("MIN") ? MIN : text.equals("MAX") ? MAX : Integer.parseInt(text);
    }

    /** Makes the call that is written. */
    static long ask(BlindFiddles x, String call) {
        int open = call.indexOf('(');
        String inside = call.substring(open + 1, call.length() - 1).trim();
        String[] texts = inside.isEmpty() ? new String[0] : inside.split(" *, *");
        Method method = METHODS.get(call.substring(0, open));
        Class<?>[] types = method.getParameterTypes();
        if (texts.length != types.length) {
            throw new IllegalArgumentException(call);
        }
        Object[] values = new Object[texts.length];
        for (int i = 0; i < values.length; i++) {
            values[i] = valueOf(texts[i], types[i]);
        }
        try {
            return ((Number) method.invoke(x, values)).longValue();
        } catch (ReflectiveOperationException e) {
            throw new IllegalStateException(call, e);
        }
    }

    /** The promise that tells of a call. */
    static int promiseOf(String call) {
        return FACE.indexOf(call.substring(0, call.indexOf('('))) + 1;
    }

    void due(BlindFiddles x, String call, long want) {
        int promise = promiseOf(call);
        left.remove(promise);
        held++;
        Due.due(section > 0 ? section : promise, "'" + sentence + "': " + call, ask(x, call), want);
    }

    /** The call with each of the values in the place of #. */
    void each(BlindFiddles x, String call, long want, int... values) {
        if (call.indexOf('#') < 0) {
            throw new IllegalArgumentException(call);
        }
        for (int value : values) {
            due(x, call.replace("#", "" + value), want);
        }
    }

    /** The call with # from a number on, and what is due of each. */
    void row(BlindFiddles x, String call, int from, long... wants) {
        for (int i = 0; i < wants.length; i++) {
            due(x, call.replace("#", "" + (from + i)), wants[i]);
        }
    }

    /** With # as the greatest n that is there, and 0, it is not refused; with one more or less, or far off, it is. */
    void noSuchN(BlindFiddles x, String call, long refusal) {
        int facts = x.count(5);
        each(x, call, refusal, -1, facts + 1, MIN, MAX);
        for (int n : new int[] {0, facts}) {
            String there = call.replace("#", "" + n);
            held++;
            long got = ask(x, there);
            Due.due(section, "'" + sentence + "': whether " + there + " is refused", got == refusal ? 1 : 0, 0);
        }
    }

    /** The text, told to a new object, has this FAULT at this place (0 and -1: none). */
    void fault(String text, int number, int place) {
        BlindFiddles x = Due.told("fiddle kept new 1 2 3;");
        Due.feed(x, text);
        String shown = text.length() > 90 ? text.substring(0, 90) + ".. " + text.length() : text;
        held++;
        left.remove(4);
        left.remove(5);
        Due.due(section > 0 ? section : 4, "'" + sentence + "': read() of " + shown, x.read(), number);
        Due.due(section > 0 ? section : 5, "'" + sentence + "': place() of " + shown, x.place(), place);
        Due.due(4, "count(6) behind " + shown, x.count(6), 0);
        if (number != 0) {
            Due.due(4, "fiddle(0, 3) behind " + shown, x.fiddle(0, 3), 3);
        }
    }

    /** The texts have no FAULT. */
    void fine(String... texts) {
        for (String text : texts) {
            fault(text, 0, -1);
        }
    }

    /** Tells a text in the place of the one ahead. */
    void tell(BlindFiddles x, String text) {
        held++;
        left.remove(4);
        Due.due(section > 0 ? section : 4, "'" + sentence + "': read() of " + text, Due.tell(x, text), 0);
    }

    // ---- whether the document's sentences are all held

    private static String plain(String text) {
        return text.replace("```text", " ").replace("```", " ").replaceAll("\\s+", " ");
    }

    /** The document's sections: what stands ahead of the promises, then promise by promise. */
    private static List<String> sections() throws Exception {
        String all = Files.readString(Path.of("../shared/DOC.md"));
        String ahead = all.substring(all.indexOf("An object is used"), all.indexOf("## Promise 1:"));
        int face = ahead.indexOf("## The public face");
        String terms = ahead.substring(ahead.indexOf("## Terms") + "## Terms".length());
        List<String> sections = new ArrayList<>();
        sections.add(plain(ahead.substring(0, face) + terms));
        for (int i = 1; i <= FACE.size(); i++) {
            int from = all.indexOf("## Promise " + i + ":");
            int to = all.indexOf("\n## ", from);
            String section = all.substring(from, to);
            sections.add(plain(section.substring(section.indexOf("`: ") + 3)));
        }
        return sections;
    }

    /** Says of each sentence that is not in the document, or not held, and of what of the document none names. */
    static int missing() throws Exception {
        int missing = 0;
        List<String> sections = sections();
        boolean[][] named = new boolean[sections.size()][];
        for (int i = 0; i < named.length; i++) {
            named[i] = new boolean[sections.get(i).length()];
        }
        for (Edge edge : ALL) {
            int at = sections.get(edge.section).indexOf(edge.sentence);
            if (at < 0 || edge.held == 0 || !edge.left.isEmpty()) {
                missing++;
                System.out.println("'" + edge.sentence + "' " + (at < 0 ? "is not in its section, " + edge.section
                        : "is not asked of promises " + edge.left));
            } else {
                Arrays.fill(named[edge.section], at, at + edge.sentence.length(), true);
            }
        }
        for (int i = 0; i < named.length; i++) {
            missing += unnamed(i, sections.get(i), named[i]);
        }
        return missing;
    }

    private static int unnamed(int section, String text, boolean[] named) {
        int missing = 0;
        for (int from = 0; from < text.length(); from++) {
            int to = from;
            while (to < text.length() && !named[to]) {
                to++;
            }
            String rest = text.substring(from, to).replaceAll("==== [IV]+\\.", "").trim();
            if (!rest.isEmpty()) {
                missing++;
                System.out.println("section " + section + ": no test names '" + rest + "'");
            }
            from = to;
        }
        return missing;
    }

    static int many() {
        return ALL.size();
    }
}
