import java.nio.charset.StandardCharsets;
import java.util.Random;

/** Random runs of all calls on an object and on Model; every answer has to be the same. The seeds are fixed. */
public final class ModelTest {
    private static final Check CHECK = new Check("ModelTest");
    private static final int RUNS = 3000;
    /** What is asked last takes fewer than 200 calls more, so that no object is asked more than 512 times. */
    private static final int CALLS = 312;

    private final Random random;
    private final TreeClimb x = new TreeClimb();
    private final Model m = new Model();
    private final int run;
    private int most;
    private int calls = 0;

    private ModelTest(int run) {
        this.run = run;
        this.random = new Random(run);
    }

    public static void main(String[] args) {
        for (int run = 0; run < RUNS; run++) {
            new ModelTest(run).go();
        }
        CHECK.end();
    }

    private void go() {
        // All ways of twelve branches are too many to go one by one, of seven they are not.
        most = run % 5 == 0 ? 12 : 7;
        if (run % 3 == 0) {
            fill();
            fill();
        }
        plant();
        while (calls < CALLS) {
            ask(random.nextInt(34));
        }
        CHECK.that("no more calls than the document allows: " + calls, calls <= 512);
    }

    private void due(String call, long got, long want) {
        calls++;
        CHECK.same("run " + run + ": " + call, got, want);
    }

    private int upTo(int least, int greatest) {
        return least + random.nextInt(greatest - least + 1);
    }

    /** Mostly a number that is told, now and then one beyond it. */
    private int near(int least, int greatest) {
        int sort = random.nextInt(40);
        if (sort == 0) return least - 1;
        if (sort == 1) return greatest + 1;
        if (sort == 2) return random.nextInt();
        return upTo(least, Math.max(least, greatest));
    }

    private int someBranch() {
        return near(0, m.count(0) - 1);
    }

    private int somePlace() {
        return near(-1, m.count(0) - 1);
    }

    private int someBody() {
        return near(0, m.count(1) - 1);
    }

    /** All there may be, so that what is left of it would show in the trees that come after. */
    private void fill() {
        write("branch9 0 30 10nest;".repeat(12) + "body30 1 9;".repeat(3));
        due("tree() of all there may be", x.tree(), m.tree());
        for (int i = 0; i < 40; i++) {
            due("afternoon(..)", x.afternoon(i % 3, i % 2, 99), m.afternoon(i % 3, i % 2, 99));
        }
    }

    private void plant() {
        StringBuilder s = new StringBuilder();
        int branches = most - random.nextInt(3);
        int highest = random.nextBoolean() ? 40 : random.nextBoolean() ? 12 : 99;
        for (int b = 0; b < branches; b++) {
            int sound = random.nextInt(4) == 0 ? upTo(0, 10) : upTo(5, 10);
            s.append("branch ").append(upTo(1, highest)).append(' ').append(upTo(0, 7)).append(' ')
                .append(upTo(1, 30)).append(' ').append(sound);
            if (random.nextInt(3) == 0) s.append(" wet");
            if (random.nextInt(3) == 0) s.append(random.nextBoolean() ? "nest" : "  nest ");
            s.append(';');
        }
        for (int p = upTo(1, 3); p > 0; p--) {
            s.append("body ").append(upTo(1, 30)).append(' ').append(upTo(1, 99)).append(' ').append(upTo(0,
                9)).append(';');
        }
        write(s.toString());
        due("tree() of " + s, x.tree(), m.tree());
    }

    private void write(String text) {
        byte[] bytes = text.getBytes(StandardCharsets.ISO_8859_1);
        int i = 0;
        while (i < bytes.length) {
            int n = Math.min(upTo(1, 8), bytes.length - i);
            long v = random.nextLong();
            for (int k = 0; k < n; k++) v = v << 8 | bytes[i + k] & 255;
            due("type", x.type(v, n), m.type(v, n));
            i += n;
        }
    }

    private void scribble() {
        String[] parts = {"branch", "body", "wet", "nest", ";", "1", "0", "10", "99", " ", "  ", "00", "31", "x",
            "\u00e9",
            "body 3 3 3;", "branch 3 3 3 3", "branch 9 1 9 9 wet;", "100"};
        StringBuilder s = new StringBuilder();
        for (int i = upTo(0, 9); i > 0; i--) {
            s.append(parts[random.nextInt(parts.length)]);
            if (random.nextInt(3) > 0) s.append(' ');
        }
        write(s.toString());
        int got = x.tree();
        due("tree() of " + s, got, m.tree());
        if (got < 0) due("clear()", x.clear(), m.clear());
        else plant();
    }

    private void ask(int which) {
        if (which < 9) askTree(which);
        else if (which < 17) askWays(which);
        else if (which < 23) askFalls(which);
        else askRest(which);
    }

    private void askTree(int which) {
        int a = near(0, 6);
        switch (which) {
            case 0 -> {
                if (random.nextInt(20) == 0) scribble();
            }
            case 1 -> {
                int n = near(1, 8);
                long v = random.nextLong();
                due("type(.., " + n + ")", x.type(v, n), m.type(v, n));
            }
            case 2 -> due("tree()", x.tree(), m.tree());
            case 3 -> due("clear()", x.clear(), m.clear());
            case 4 -> {
                int b = someBranch();
                due("branch(" + b + ", " + a + ")", x.branch(b, a), m.branch(b, a));
            }
            case 5 -> {
                int p = someBody();
                due("body(" + p + ", " + a + ")", x.body(p, a), m.body(p, a));
            }
            case 6 -> {
                int v = near(0, 10);
                due("tune(" + a + ", " + v + ")", x.tune(a, v), m.tune(a, v));
            }
            case 7 -> {
                int set = random.nextInt() & random.nextInt() & random.nextInt();
                due("sawn(" + set + ")", x.sawn(set), m.sawn(set));
            }
            default -> {
                int c = near(0, 4);
                due("count(" + c + ")", x.count(c), m.count(c));
            }
        }
        if (m.count(0) == 0 && m.count(4) == 0) plant();
    }

    private void askWays(int which) {
        int p = someBody();
        int b = someBranch();
        int from = somePlace();
        int to = somePlace();
        switch (which) {
            case 9 -> due("step(" + p + ", " + from + ", " + to + ")", x.step(p, from, to), m.step(p, from, to));
            case 10 -> due("holds(" + p + ", " + b + ")", x.holds(p, b), m.holds(p, b));
            case 11 -> {
                if (m.count(0) > 7) return;
                for (int what = -1; what < 4; what++) {
                    String call = "best(" + p + ", " + from + ", " + to + ", " + what + ")";
                    due(call, x.best(p, from, to, what), m.best(p, from, to, what));
                }
            }
            case 12 -> {
                int what = near(0, 1);
                due("high(" + p + ", " + what + ")", x.high(p, what), m.high(p, what));
            }
            case 13 -> {
                if (m.count(0) > 7) return;
                int h = near(0, 100);
                due("sure(" + p + ", " + h + ")", x.sure(p, h), m.sure(p, h));
            }
            case 14 -> {
                int back = near(0, 20);
                due("help(" + p + ", " + back + ")", x.help(p, back), m.help(p, back));
            }
            case 15 -> due("stuck(" + p + ", " + b + ")", x.stuck(p, b), m.stuck(p, b));
            default -> {
                int set = random.nextInt() & random.nextInt() & random.nextInt() & random.nextInt();
                due("rubbed(" + p + ", " + b + ", " + set + ")", x.rubbed(p, b, set), m.rubbed(p, b, set));
                due("rubbed(" + p + ", " + b + ", 0)", x.rubbed(p, b, 0), m.rubbed(p, b, 0));
            }
        }
    }

    private void askFalls(int which) {
        int p = someBody();
        int b = someBranch();
        int q = near(0, 10);
        int what = near(0, 1);
        switch (which) {
            case 17 -> {
                int n = near(0, 9);
                due("tried(" + b + ", " + q + ", " + n + ", " + what + ")", x.tried(b, q, n, what), m.tried(b, q, n,
                    what));
            }
            case 18 -> {
                int h = near(0, 100);
                due("tries(" + b + ", " + q + ", " + h + ")", x.tries(b, q, h), m.tries(b, q, h));
            }
            case 19 -> {
                int w = near(0, 20);
                due("sway(" + p + ", " + b + ", " + w + ")", x.sway(p, b, w), m.sway(p, b, w));
            }
            case 20 -> {
                int l = random.nextBoolean() ? near(0, 300) : near(0, 9999);
                due("calm(" + p + ", " + b + ", " + l + ")", x.calm(p, b, l), m.calm(p, b, l));
            }
            case 21 -> due("fall(" + b + ", " + what + ")", x.fall(b, what), m.fall(b, what));
            default -> {
                int l = random.nextInt(9) == 0 ? near(0, 9999) : near(0, 150);
                int h = random.nextBoolean() ? 0 : near(0, 50);
                due("saw(" + p + ", " + l + ", " + h + ", " + what + ")", x.saw(p, l, h, what), m.saw(p, l, h, what));
            }
        }
    }

    private void askRest(int which) {
        int p = someBody();
        int b = someBranch();
        switch (which) {
            case 23 -> {
                int lookers = random.nextBoolean() ? 0 : near(0, 9);
                int high = near(0, 99);
                due("afternoon(" + p + ", ..)", x.afternoon(p, lookers, high), m.afternoon(p, lookers, high));
            }
            case 24 -> {
                int l = near(0, 9);
                int h = near(0, 99);
                due("dares(" + p + ", " + l + ", " + h + ", 0)", x.dares(p, l, h, 0), m.dares(p, l, h, 0));
                due("dares(" + p + ", " + l + ", " + h + ", 1)", x.dares(p, l, h, 1), m.dares(p, l, h, 1));
            }
            case 25 -> due("looked(" + p + ")", x.looked(p), m.looked(p));
            case 26 -> {
                if (random.nextInt(4) == 0) due("goes(" + p + ")", x.goes(p), m.goes(p));
            }
            case 27, 28 -> climbOn();
            case 29 -> {
                int v = random.nextInt();
                due("lot(" + v + ")", x.lot(v), m.lot(v));
            }
            case 30 -> {
                int kind = near(0, 5);
                due("mark(" + kind + ", " + b + ")", x.mark(kind, b), m.mark(kind, b));
            }
            case 31 -> {
                int image = near(0, 1);
                due("keep(" + image + ")", x.keep(image), m.keep(image));
            }
            case 32 -> {
                int image = near(0, 1);
                due("back(" + image + ")", x.back(image), m.back(image));
            }
            default -> due("trace()", x.trace(), m.trace());
        }
        seeClimb();
    }

    private void climbOn() {
        for (int i = 0; i < 6; i++) {
            int to = somePlace();
            due("climb(" + to + ")", x.climb(to), m.climb(to));
        }
    }

    private void seeClimb() {
        for (int what = 0; what < 6; what++) {
            due("now(" + what + ")", x.now(what), m.now(what));
        }
        int what = near(0, 5);
        due("now(" + what + ")", x.now(what), m.now(what));
    }
}
