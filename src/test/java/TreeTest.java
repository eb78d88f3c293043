/** Promises 5 to 8: branch, body, tune, sawn. */
public final class TreeTest {
    private static final Check CHECK = new Check("TreeTest");
    private static final String TWO = "branch 8 7 15 10 nest;branch 99 0 30 0 wet;body 1 99 0;body 30 1 9;";

    public static void main(String[] args) {
        promise5();
        promise6();
        promise7();
        promise7Wrong();
        promise8();
        CHECK.end();
    }

    private static void promise5() {
        TreeClimb x = Check.grown(TWO);
        x.sawn(2);
        CHECK.row("branch 0", features(x, 0), 8, 7, 15, 10, 0, 1, 0);
        CHECK.row("branch 1", features(x, 1), 99, 0, 30, 0, 1, 0, 1);
        CHECK.same("branch -1", x.branch(-1, 0), TreeClimb.BAD);
        CHECK.same("branch 2", x.branch(2, 0), TreeClimb.BAD);
        CHECK.same("what -1", x.branch(0, -1), TreeClimb.BAD);
        CHECK.same("what 7", x.branch(0, 7), TreeClimb.BAD);
        CHECK.same("far", x.branch(Integer.MAX_VALUE, Integer.MIN_VALUE), TreeClimb.BAD);
        TreeClimb both = Check.grown("branch 1 0 1 1 wet nest;branch 1 0 1 1;");
        CHECK.row("wet nest", features(both, 0), 1, 0, 1, 1, 1, 1, 0);
        CHECK.row("neither", features(both, 1), 1, 0, 1, 1, 0, 0, 0);
    }

    private static long[] features(TreeClimb x, int b) {
        long[] row = new long[7];
        for (int what = 0; what < 7; what++) {
            row[what] = x.branch(b, what);
        }
        return row;
    }

    private static void promise6() {
        TreeClimb x = Check.grown(TWO);
        CHECK.row("body 0", new long[] {x.body(0, 0), x.body(0, 1), x.body(0, 2)}, 1, 99, 0);
        CHECK.row("body 1", new long[] {x.body(1, 0), x.body(1, 1), x.body(1, 2)}, 30, 1, 9);
        CHECK.same("body -1", x.body(-1, 0), TreeClimb.BAD);
        CHECK.same("body 2", x.body(2, 0), TreeClimb.BAD);
        CHECK.same("what -1", x.body(0, -1), TreeClimb.BAD);
        CHECK.same("what 3", x.body(0, 3), TreeClimb.BAD);
    }

    private static void promise7() {
        int[] first = {3, 2, 2, 4, 3, 0};
        int[] least = {1, 0, 0, 0, 1, 0};
        int[] most = {9, 4, 9, 10, 9, 20};
        TreeClimb x = new TreeClimb();
        for (int what = 0; what < 6; what++) {
            CHECK.same("first " + what, x.tune(what, least[what]), first[what]);
            CHECK.same("least " + what, x.tune(what, most[what]), least[what]);
            CHECK.same("below " + what, x.tune(what, least[what] - 1), TreeClimb.BAD);
            CHECK.same("above " + what, x.tune(what, most[what] + 1), TreeClimb.BAD);
            CHECK.same("most " + what, x.tune(what, most[what]), most[what]);
        }
    }

    private static void promise7Wrong() {
        TreeClimb x = new TreeClimb();
        CHECK.same("tune -1", x.tune(-1, 1), TreeClimb.BAD);
        CHECK.same("tune 6", x.tune(6, 1), TreeClimb.BAD);
        CHECK.same("tune far", x.tune(Integer.MAX_VALUE, 1), TreeClimb.BAD);
        CHECK.same("value far", x.tune(0, Integer.MIN_VALUE), TreeClimb.BAD);
        // one object's tunes are not another's
        x.tune(0, 9);
        CHECK.same("another object", new TreeClimb().tune(0, 1), 3);
    }

    private static void promise8() {
        TreeClimb x = Check.grown(TWO + "branch 7 3 10 10;");
        CHECK.same("first", x.sawn(-1), 0);
        CHECK.same("all three", x.sawn(8), 7);
        CHECK.same("none of these", x.sawn(5), 0);
        CHECK.same("two", x.count(3), 2);
        CHECK.same("bit 0", x.branch(0, 6), 1);
        CHECK.same("bit 1", x.branch(1, 6), 0);
        CHECK.same("bit 2", x.branch(2, 6), 1);
        CHECK.same("was 5", x.sawn(Integer.MIN_VALUE), 5);
        CHECK.same("was 0", x.sawn(0), 0);
    }
}
