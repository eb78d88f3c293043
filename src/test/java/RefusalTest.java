/** Numbers out of all bounds, in many states: every call ends, answers a refusal where one is due, and changes nothing. */
public final class RefusalTest {
    private static final Check CHECK = new Check("RefusalTest");
    private static final int[] ODD = {Integer.MIN_VALUE, -1000000, -2, -1, 0, 1, 2, 11, 12, 13, 31, 32, 33, 99, 100, 10000,
        Integer.MAX_VALUE};

    public static void main(String[] args) {
        TreeClimb[] states = {new TreeClimb(), Check.grown("body 1 1 1;"), Check.grown("branch 1 1 1 1;"), full(), full()};
        states[4].sawn(-1);
        for (TreeClimb x : states) {
            oneNumber(x);
            for (int a : ODD) {
                twoNumbers(x, a);
                for (int b : ODD) {
                    threeNumbers(x, a, b);
                }
            }
        }
        CHECK.end();
    }

    private static TreeClimb full() {
        TreeClimb x = Check.grown("branch 9 0 30 9;".repeat(6) + "branch 5 1 30 10 wet;".repeat(6) + "body 30 99 9;".repeat(3));
        for (int i = 0; i < 40; i++) {
            x.afternoon(i % 3, i % 10, i);
        }
        x.keep(0);
        x.climb(6);
        for (int i = 0; i < 50; i++) {
            x.type(0x3b3b3b3b3b3b3b3bL, 8);
        }
        return x;
    }

    /** What a refusal answered must have changed nothing. */
    private static void unchanged(String call, TreeClimb x, String ahead, long answer) {
        if (answer == TreeClimb.BAD || answer == TreeClimb.STATE || answer == TreeClimb.FULL || answer == TreeClimb.NO) {
            CHECK.that(call + " changed nothing", ahead.equals(Check.stateOf(x)));
        }
    }

    private static void oneNumber(TreeClimb x) {
        for (int a : ODD) {
            String ahead = Check.stateOf(x);
            boolean body = a >= 0 && a < x.count(1);
            CHECK.that("count(" + a + ")", x.count(a) == TreeClimb.BAD == (a < 0 || a > 4));
            CHECK.that("now(" + a + ")", x.now(a) == TreeClimb.NO == (a < 0 || a > 5));
            if (!body) {
                CHECK.same("goes(" + a + ")", x.goes(a), TreeClimb.BAD);
                CHECK.same("looked(" + a + ")", x.looked(a), TreeClimb.NO);
            }
            if (a < 0 || a > 1) {
                CHECK.same("keep(" + a + ")", x.keep(a), TreeClimb.BAD);
                CHECK.same("back(" + a + ")", x.back(a), TreeClimb.BAD);
            }
            if (a < -1 || a >= x.count(0)) {
                CHECK.same("climb(" + a + ")", x.climb(a), TreeClimb.NO);
            }
            CHECK.that("nothing changed by " + a, ahead.equals(Check.stateOf(x)));
        }
    }

    private static void twoNumbers(TreeClimb x, int a) {
        for (int b : ODD) {
            String ahead = Check.stateOf(x);
            String call = "(" + a + ", " + b + ")";
            unchanged("tune" + call, x, ahead, a == 5 && b == 0 ? 0 : tuneBad(x, a, b));
            unchanged("type" + call, x, ahead, b < 1 || b > 8 ? x.type(a, b) : 0);
            unchanged("mark" + call, x, ahead, a < 0 || a > 5 ? x.mark(a, b) : 0);
            unchanged("branch" + call, x, ahead, x.branch(a, b));
            unchanged("body" + call, x, ahead, x.body(a, b));
            unchanged("holds" + call, x, ahead, x.holds(a, b));
            unchanged("high" + call, x, ahead, x.high(a, b));
            unchanged("sure" + call, x, ahead, x.sure(a, b));
            unchanged("help" + call, x, ahead, x.help(a, b));
            unchanged("stuck" + call, x, ahead, x.stuck(a, b));
            unchanged("fall" + call, x, ahead, x.fall(a, b));
        }
    }

    private static int tuneBad(TreeClimb x, int what, int v) {
        return what < 0 || what > 5 || v < 0 || v > 20 ? x.tune(what, v) : TreeClimb.BAD;
    }

    private static void threeNumbers(TreeClimb x, int a, int b) {
        String ahead = Check.stateOf(x);
        boolean body = a >= 0 && a < x.count(1);
        boolean branch = a >= 0 && a < x.count(0);
        for (int c : ODD) {
            refused("step", !body, x.step(a, b, c));
            refused("rubbed", !body, x.rubbed(a, b, c));
            refused("tries", !branch, x.tries(a, b, c));
            refused("sway", !body, x.sway(a, b, c));
            refused("calm", !body, x.calm(a, b, c));
            if (!body || b < 0 || b > 9 || c < 0 || c > 99) {
                refused("afternoon", true, x.afternoon(a, b, c));
            }
            for (int d = -1; d < 4; d++) {
                refused("best", !body || d < 0 || d > 2, x.best(a, b, c, d));
                refused("tried", !branch || d < 0 || d > 1, x.tried(a, b, c, d));
                refused("saw", !body || d < 0 || d > 1, x.saw(a, b, c, d));
                refused("dares", !body || d < 0 || d > 1, x.dares(a, b, c, d));
            }
        }
        CHECK.that("nothing changed by " + a + ", " + b, ahead.equals(Check.stateOf(x)));
    }

    private static void refused(String call, boolean bad, long answer) {
        if (bad) {
            CHECK.same(call, answer, TreeClimb.BAD);
        }
    }
}
