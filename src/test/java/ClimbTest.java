/** Promises 26 to 29: goes, climb, now, lot. */
public final class ClimbTest {
    private static final Check CHECK = new Check("ClimbTest");

    public static void main(String[] args) {
        promise26();
        promise27Refused();
        promise27Draws();
        promise27Falls();
        promise27Sawn();
        promise28();
        promise29();
        CHECK.end();
    }

    private static void now(String when, TreeClimb x, long... want) {
        long[] got = {x.now(0), x.now(1), x.now(2), x.now(3), x.now(4), x.now(5)};
        CHECK.row(when, got, want);
    }

    private static int lotOf(TreeClimb x) {
        int lot = x.lot(0);
        x.lot(lot);
        return lot;
    }

    /** A lot whose next draw is this. */
    private static int lotFor(int draw) {
        int lot = 1;
        while (((lot * 1103515245 + 12345) >>> 16) % 10 != draw) {
            lot++;
        }
        return lot;
    }

    private static void promise26() {
        TreeClimb x = Check.grown("branch 5 0 30 10;branch 9 0 10 0;body 9 20 9;body 9 20 9;");
        x.climb(0);
        x.climb(1);
        now("before", x, 0, -1, 15, 5, 1, 1);
        int lot = lotOf(x);
        CHECK.same("body 2", x.goes(2), -1);
        CHECK.same("body -1", x.goes(-1), -1);
        now("unchanged", x, 0, -1, 15, 5, 1, 1);
        x.climb(0);
        lot = lotOf(x);
        CHECK.same("whose it was", x.goes(1), 0);
        now("from the ground on", x, 1, -1, 0, 0, 0, 0);
        CHECK.same("the lot stays", lotOf(x), lot);
        CHECK.same("whose it was", x.goes(1), 1);
        CHECK.same("no bodies", new TreeClimb().goes(0), -1);
    }

    private static void promise27Refused() {
        TreeClimb x = Check.grown("branch 5 0 30 10;branch 40 0 10 0;body 9 20 9;");
        String ahead = Check.stateOf(x);
        CHECK.same("branch 2", x.climb(2), TreeClimb.NO);
        CHECK.same("-2", x.climb(-2), TreeClimb.NO);
        CHECK.same("far", x.climb(Integer.MIN_VALUE), TreeClimb.NO);
        CHECK.same("one is there", x.climb(-1), TreeClimb.NO);
        CHECK.same("it may not be", x.climb(1), TreeClimb.NO);
        CHECK.that("nothing changed", ahead.equals(Check.stateOf(x)));
        x.climb(0);
        CHECK.same("one is there", x.climb(0), TreeClimb.NO);
        TreeClimb none = Check.grown("branch 5 0 30 10;");
        CHECK.same("no body", none.climb(0), TreeClimb.NO);
        CHECK.same("no body", none.climb(-1), TreeClimb.NO);
        none.tune(5, 20);
        CHECK.same("no body, helped", none.climb(0), TreeClimb.NO);
    }

    private static void promise27Draws() {
        for (int sound = 0; sound <= 10; sound++) {
            for (int draw = 0; draw < 10; draw++) {
                TreeClimb x = Check.grown("branch 5 0 10 " + sound + ";body 9 20 9;");
                int lot = lotFor(draw);
                x.lot(lot);
                int want = draw < sound ? 0 : -1;
                CHECK.same("holds " + sound + ", draw " + draw, x.climb(0), want);
                CHECK.same("the lot went on", lotOf(x), lot * 1103515245 + 12345);
                now("then", x, 0, want, 0, want == 0 ? 5 : 0, want == 0 ? 1 : 0, want == 0 ? 0 : 1);
            }
        }
        TreeClimb x = Check.grown("branch 5 0 30 10;body 9 20 9;");
        x.lot(-1);
        // 1103515245 by -1 and 12345: -1103502900, its upper 16 bits 48697
        x.climb(0);
        CHECK.same("wrapped", lotOf(x), -1103502900);
        CHECK.same("down", x.climb(-1), -1);
        CHECK.same("no draw onto the ground", lotOf(x), -1103502900);
        now("a step onto the ground is one", x, 0, -1, 0, 5, 2, 0);
        TreeClimb high = Check.grown("branch 5 0 10 7;body 9 20 9;");
        high.lot(-1);
        CHECK.same("draw 7 is not below 7", high.climb(0), -1);
        TreeClimb eight = Check.grown("branch 5 0 10 8;body 9 20 9;");
        eight.lot(-1);
        CHECK.same("draw 7 is below 8", eight.climb(0), 0);
    }

    private static void promise27Falls() {
        TreeClimb x = Check.grown("branch 7 0 30 10;branch 13 0 30 10;branch 14 0 10 0;branch 4 0 10 0;body 9 20 9;");
        x.climb(0);
        x.climb(1);
        now("up", x, 0, 1, 0, 13, 2, 0);
        // from 13: 6, 3, 3; 6, 3, 3; 7 by 3
        CHECK.same("it does not hold", x.climb(2), -1);
        now("fallen", x, 0, -1, 3 + 3 + 21, 13, 2, 1);
        CHECK.same("from the ground", x.climb(3), -1);
        now("without harm", x, 0, -1, 27, 13, 2, 2);
        x.climb(0);
        // from 7: 3, 1, 1; 5 by 3
        x.climb(2);
        now("harm comes to it", x, 0, -1, 27 + 16, 13, 3, 3);
        x.tune(4, 9);
        x.climb(0);
        x.climb(2);
        now("hard", x, 0, -1, 43 + 1 + 45, 13, 4, 4);
    }

    private static void promise27Sawn() {
        TreeClimb x = Check.grown("branch 7 0 30 10;branch 13 0 30 10;branch 14 0 10 0;body 9 20 9;");
        x.climb(0);
        x.climb(1);
        x.sawn(1);
        CHECK.same("onto a sawn one", x.climb(0), TreeClimb.NO);
        CHECK.same("nobody strikes a sawn one", x.climb(2), -1);
        now("fallen past it", x, 0, -1, 39, 13, 2, 1);
        x.sawn(0);
        x.climb(0);
        x.sawn(1);
        CHECK.same("off a sawn one", x.climb(-1), TreeClimb.NO);
        now("one stays there", x, 0, 0, 39, 13, 3, 1);
    }

    private static void promise28() {
        TreeClimb x = Check.grown("branch 7 0 30 10;branch 3 0 30 10;body 9 9 9;body 9 9 9;");
        x.goes(1);
        x.climb(0);
        x.climb(1);
        now("lower than the top", x, 1, 1, 0, 7, 2, 0);
        CHECK.same("what -1", x.now(-1), TreeClimb.NO);
        CHECK.same("what 6", x.now(6), TreeClimb.NO);
        CHECK.same("what far", x.now(Integer.MIN_VALUE), TreeClimb.NO);
    }

    private static void promise29() {
        TreeClimb x = new TreeClimb();
        CHECK.same("1 at first", x.lot(Integer.MIN_VALUE), 1);
        CHECK.same("the least", x.lot(Integer.MAX_VALUE), Integer.MIN_VALUE);
        CHECK.same("the greatest", x.lot(0), Integer.MAX_VALUE);
        CHECK.same("0", x.lot(-1), 0);
        CHECK.same("-1", x.lot(1), -1);
    }
}
