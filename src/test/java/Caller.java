import java.lang.reflect.Method;
import java.nio.charset.StandardCharsets;
import java.util.HashMap;
import java.util.Map;

/** A TreeClimb or a Model, asked by the call's text, such as "step 0 -1 2",
    and no more often than the document allows. */
final class Caller {
    private static final int MOST_CALLS = 512;
    private static final Map<String, Method> METHODS = new HashMap<>();

    private final Object asked;
    private int calls = 0;

    Caller(Object asked) {
        this.asked = asked;
    }

    /** Several calls, each ended by ; */
    Caller with(String script) {
        for (String call : script.split(";")) {
            ask(call.trim());
        }
        return this;
    }

    Caller times(int many, String call) {
        for (int i = 0; i < many; i++) {
            ask(call);
        }
        return this;
    }

    /** Types a text. */
    Caller types(String text) {
        byte[] bytes = text.getBytes(StandardCharsets.ISO_8859_1);
        for (int i = 0; i < bytes.length; i += 8) {
            int n = Math.min(8, bytes.length - i);
            long v = 0;
            for (int k = 0; k < n; k++) {
                v = v << 8 | bytes[i + k] & 255;
            }
            ask("type " + v + " " + n);
        }
        return this;
    }

    Caller tree(String text) {
        types(text);
        if (ask("tree") < 0) {
            throw new IllegalStateException("no tree: " + text);
        }
        return this;
    }

    long ask(String call) {
        calls++;
        if (calls > MOST_CALLS) {
            throw new IllegalStateException("asked too often");
        }
        String[] words = call.split(" ");
        try {
            Method m = METHODS.computeIfAbsent(asked.getClass().getName() + " " + words[0], key -> find(words[0]));
            Object[] args = new Object[words.length - 1];
            for (int i = 0; i < args.length; i++) {
                long v = Long.parseLong(words[i + 1]);
                boolean isLong = m.getParameterTypes()[i] == long.class;
                args[i] = isLong ? (Object) v : (Object) Math.toIntExact(v);
            }
            return ((Number) m.invoke(asked, args)).longValue();
        } catch (ReflectiveOperationException e) {
            throw new IllegalStateException(call, e);
        }
    }

    private Method find(String name) {
        for (Method m : asked.getClass().getDeclaredMethods()) {
            if (m.getName().equals(name)) {
                m.setAccessible(true);
                return m;
            }
        }
        throw new IllegalStateException("no " + name);
    }

    /** All of the state, as later calls tell it; the state is used up by it. */
    String show() {
        StringBuilder s = new StringBuilder();
        each(s, "count", 0, 4);
        each(s, "now", 0, 5);
        long branches = ask("count 0");
        long bodies = ask("count 1");
        for (int b = 0; b < branches; b++) {
            each(s, "branch " + b, 0, 6);
        }
        for (int p = 0; p < bodies; p++) {
            each(s, "body " + p, 0, 2);
            note(s, "looked " + p);
            each(s, "dares " + p + " 0 50", 0, 1);
        }
        for (int what = 0; what <= 5; what++) {
            long v = note(s, "tune " + what + " 1");
            ask("tune " + what + " " + v);
        }
        moment(s);
        note(s, "trace");
        for (int to = 0; to < Math.min(4, branches); to++) {
            note(s, "climb " + to);
        }
        moment(s);
        note(s, "afternoon 0 9 99");
        note(s, "back 0");
        moment(s);
        note(s, "back 1");
        moment(s);
        text(s);
        return s.toString();
    }

    private void moment(StringBuilder s) {
        each(s, "now", 0, 5);
        long lot = note(s, "lot 5");
        ask("lot " + lot);
        long sawn = note(s, "sawn 0");
        ask("sawn " + sawn);
    }

    /** What was typed shows as the tree that it becomes, or by its fault. */
    private void text(StringBuilder s) {
        if (note(s, "tree") < 0) {
            note(s, "clear");
        }
        each(s, "count", 0, 4);
        each(s, "branch 0", 0, 6);
        each(s, "body 0", 0, 2);
        note(s, "back 0");
        each(s, "now", 0, 5);
    }

    private void each(StringBuilder s, String call, int least, int most) {
        for (int i = least; i <= most; i++) {
            note(s, call + " " + i);
        }
    }

    private long note(StringBuilder s, String call) {
        long answer = ask(call);
        s.append(answer).append(' ');
        return answer;
    }
}
