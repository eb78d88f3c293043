import java.nio.charset.StandardCharsets;
import java.util.function.Supplier;

/** What the tests share: counting wrong answers, writing a text into an object. */
final class Check {
    private final String name;
    private String part = "";
    private int asked = 0;
    private int wrong = 0;

    Check(String name) {
        this.name = name;
    }

    /** One boundary case, told by its name; an exception in it is a wrong answer, and the others go on. */
    void test(String told, Runnable body) {
        part = told + ": ";
        int before = asked;
        try {
            body.run();
        } catch (RuntimeException | StackOverflowError thrown) {
            same("throws " + thrown, 1, 0);
        }
        same("asks something", asked > before ? 1 : 0, 1);
        part = "";
    }

    /** The call answers so on an object so made, and no later call tells it from one that was not asked. */
    void refused(String call, Supplier<Caller> made, long want) {
        refused(call, made.get(), want, made.get().show());
    }

    void refused(String call, Caller x, long want, String due) {
        same(call, x.ask(call), want);
        shows(call + " changes nothing", x, due);
    }

    /** The state, as later calls tell it, is due. */
    void shows(String what, Caller x, String due) {
        String got = x.show();
        int same = 0;
        while (same < Math.min(got.length(), due.length()) && got.charAt(same) == due.charAt(same)) {
            same++;
        }
        that(what + ", but " + got.substring(0, same) + "| " + got.substring(same), got.equals(due));
    }

    void same(String call, long got, long want) {
        asked++;
        if (got != want) {
            wrong++;
            System.out.println(name + ": " + part + call + " answered " + got + ", due is " + want);
        }
    }

    void that(String what, boolean holds) {
        same(what, holds ? 1 : 0, 1);
    }

    /** A row of answers to one call, asked with 0, 1, 2 .. in its last place. */
    void row(String call, long[] got, long... want) {
        same(call + ": how many", got.length, want.length);
        for (int i = 0; i < Math.min(got.length, want.length); i++) {
            same(call + " " + i, got[i], want[i]);
        }
    }

    void end() {
        System.out.println(name + ": " + asked + " asked, " + wrong + " wrong");
        if (wrong > 0) {
            System.exit(1);
        }
    }

    static void write(TreeClimb x, String text) {
        byte[] bytes = text.getBytes(StandardCharsets.ISO_8859_1);
        for (int i = 0; i < bytes.length; i += 8) {
            int n = Math.min(8, bytes.length - i);
            long v = 0;
            for (int k = 0; k < n; k++) {
                v = v << 8 | bytes[i + k] & 255;
            }
            x.type(v, n);
        }
    }

    static TreeClimb grown(String text) {
        TreeClimb x = new TreeClimb();
        write(x, text);
        if (x.tree() < 0) {
            throw new IllegalStateException("no tree: " + text);
        }
        return x;
    }

    /** The state as far as calls that change nothing show it. */
    static String stateOf(TreeClimb x) {
        StringBuilder s = new StringBuilder();
        for (int what = 0; what < 5; what++) {
            s.append(x.count(what)).append(' ');
        }
        for (int what = 0; what < 6; what++) {
            s.append(x.now(what)).append(' ');
        }
        for (int b = 0; b < x.count(0); b++) {
            for (int what = 0; what < 7; what++) {
                s.append(x.branch(b, what)).append(' ');
            }
        }
        for (int p = 0; p < x.count(1); p++) {
            for (int what = 0; what < 3; what++) {
                s.append(x.body(p, what)).append(' ');
            }
            s.append(x.looked(p)).append(' ').append(x.dares(p, 0, 50, 0)).append(' ');
        }
        for (int what = 0; what < 6; what++) {
            int v = x.tune(what, 1);
            x.tune(what, v);
            s.append(v).append(' ');
        }
        int lot = x.lot(0);
        x.lot(lot);
        return s.append(lot).append(' ').append(x.trace()).toString();
    }
}
