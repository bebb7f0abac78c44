import java.lang.reflect.InvocationTargetException;
import java.lang.reflect.Method;
import java.lang.reflect.Modifier;
import java.util.ArrayList;
import java.util.HashMap;
import java.util.List;
import java.util.Map;
import java.util.regex.Matcher;
import java.util.regex.Pattern;

/**
 * Calls written down as text, one a row (or several with ';' between), each on the same object:
 *
 * <pre>
 *   type 0 'Ann'          one call for each character
 *   type 0 256 = false    one call, with a code
 *   11x add               the same call so many times
 *   words MAX 0 = BAD     the answer that is due stands behind '='
 * </pre>
 *
 * A row without an answer prepares what comes then, and must not be refused. MIN and MAX are the
 * least and the greatest int.
 */
final class Talk {
    static final int MOST_CALLS = 512;

    private static final int THREW = Integer.MIN_VALUE;

    private static final Pattern PART = Pattern.compile("'[^']*'|\\S+");
    private static final Map<String, Integer> NAMED = Map.of("BAD", -1, "FULL", -2, "UNDRIVEN", -3,
            "NONE", -4, "IDLE", -5, "BUSY", -6, "MIN", Integer.MIN_VALUE, "MAX", Integer.MAX_VALUE,
            "true", 1, "false", 0);

    private final Object object;
    private final Map<String, Method> face = new HashMap<>();
    private final List<Integer> answers = new ArrayList<>();
    private boolean mayBeRefused = false;

    /** With an object that has the document's methods. */
    Talk(Object object) {
        this.object = object;
        for (Method method : object.getClass().getDeclaredMethods()) {
            if (!Modifier.isPrivate(method.getModifiers()) && !Modifier.isStatic(method.getModifiers())) {
                face.put(method.getName(), method);
            }
        }
    }

    /** The test of one sentence of the document: a run of calls on a new object. */
    static void of(String sentence, String... texts) {
        Check.sentence(sentence);
        more(texts);
    }

    /** Another run, on another new object, for the same sentence. */
    static void more(String... texts) {
        new Talk(new RecordMatcher()).say(texts);
    }

    /** The row once for each value, which stands in the place of '#'. */
    static String each(String row, Object... values) {
        StringBuilder rows = new StringBuilder();
        for (Object value : values) {
            rows.append(row.replace("#", value.toString())).append('\n');
        }
        return rows.toString();
    }

    /** Types a record in and adds it. */
    static String record(String first, String second) {
        return "type 0 '" + first + "'; type 1 '" + second + "'; add\n";
    }

    /** A record for each text, in field 0. */
    static String records(String... firsts) {
        StringBuilder rows = new StringBuilder();
        for (String first : firsts) {
            rows.append(record(first, ""));
        }
        return rows.toString();
    }

    /** So many records of which all are alike, and a rule that says so. */
    static String alike(int count) {
        return record("a", "").repeat(count) + "jaccard 0 1 1; accept\n";
    }

    void say(String... texts) {
        for (String text : texts) {
            for (String row : text.split("[;\n]")) {
                if (!row.isBlank()) {
                    sayRow(row.trim());
                }
            }
        }
    }

    /** Asks what may be refused or not: only the answers count. */
    void probe(String... texts) {
        mayBeRefused = true;
        say(texts);
        mayBeRefused = false;
    }

    private void sayRow(String row) {
        int sign = row.indexOf(" = ");
        String call = sign < 0 ? row : row.substring(0, sign);
        Integer want = sign < 0 ? null : number(row.substring(sign + 3).trim());
        int times = 1;
        if (call.matches("\\d+x .*")) {
            times = number(call.substring(0, call.indexOf('x')));
            call = call.substring(call.indexOf('x') + 2);
        }
        for (int i = 0; i < times; i++) {
            sayCall(call, want);
        }
    }

    private void sayCall(String call, Integer want) {
        List<String> parts = new ArrayList<>();
        Matcher matcher = PART.matcher(call);
        while (matcher.find()) {
            parts.add(matcher.group());
        }
        String last = parts.get(parts.size() - 1);
        if (!last.startsWith("'")) {
            ask(call, parts, want);
            return;
        }
        for (char c : last.substring(1, last.length() - 1).toCharArray()) {
            parts.set(parts.size() - 1, Integer.toString(c));
            ask(call, parts, want);
        }
    }

    private void ask(String call, List<String> parts, Integer want) {
        Method method = face.get(parts.get(0));
        Class<?>[] types = method.getParameterTypes();
        Object[] arguments = new Object[types.length];
        for (int i = 0; i < types.length; i++) {
            int number = number(parts.get(i + 1));
            arguments[i] = types[i] == char.class ? (Object) (char) number
                    : types[i] == boolean.class ? (Object) (number != 0) : (Object) number;
        }
        String place = "call " + (answers.size() + 1) + ", " + call;
        Object answer = answerOf(place, method, arguments);
        int got = answer instanceof Boolean truth ? (truth ? 1 : 0) : (Integer) answer;
        answers.add(got);
        if (want != null) {
            Check.due(place, got, want);
        } else if (!mayBeRefused && (answer instanceof Boolean ? got == 0 : got < 0)) {
            Check.due(place + ", which prepares: refused", 1, 0);
        }
        if (answers.size() > MOST_CALLS) {
            Check.due(place + ": more calls than an object is good for", 1, 0);
        }
    }

    private Object answerOf(String place, Method method, Object[] arguments) {
        try {
            return method.invoke(object, arguments);
        } catch (InvocationTargetException e) {
            // No call ever throws, so this is a wrong answer, and the calls behind it are asked too.
            Check.due(place + " threw " + e.getCause() + ":", 1, 0);
            return THREW;
        } catch (IllegalAccessException e) {
            throw new IllegalStateException(e);
        }
    }

    private static int number(String part) {
        Integer named = NAMED.get(part);
        return named != null ? named : Integer.parseInt(part);
    }

    /** What all calls up to now answered, true as 1 and false as 0. */
    List<Integer> answers() {
        return answers;
    }
}
