/** Promises 21 and 22: fall, saw. */
public final class FallTest {
    private static final Check CHECK = new Check("FallTest");

    public static void main(String[] args) {
        promise21();
        promise21Sides();
        promise21Wrong();
        promise22();
        promise22Ties();
        promise22Many();
        promise22Wrong();
        CHECK.end();
    }

    private static void fall(TreeClimb x, int b, long harm, long struck) {
        CHECK.row("fall(" + b + ")", new long[] {x.fall(b, 0), x.fall(b, 1)}, harm, struck);
    }

    private static void promise21() {
        TreeClimb x = Check.grown("branch 7 0 1 0;branch 20 0 1 0;branch 13 1 1 0;branch 13 0 1 0;branch 7 4 1 0;"
            + "branch 1 0 1 0;");
        // from 1: onto the ground 1 by 3
        fall(x, 5, 3, 0);
        // from 7: 6, blow 3, 3; ground 4 by 3
        fall(x, 0, 3 + 12, 1 << 5);
        // from 7 on the other side
        fall(x, 4, 21, 0);
        // from 13: 6, blow 3, 3; 9, blow 4, 4; ground 5 by 3
        fall(x, 2, 3 + 4 + 15, 1 << 0 | 1 << 5);
        // from 20: 7, 3, 3; 3 (as high), 1, 1; 7, 3, 3; 9, 4, 4; 5 by 3
        fall(x, 1, 3 + 1 + 3 + 4 + 15, 1 << 0 | 1 << 2 | 1 << 3 | 1 << 5);
        x.tune(4, 9);
        fall(x, 1, 3 + 1 + 3 + 4 + 45, 1 << 0 | 1 << 2 | 1 << 3 | 1 << 5);
        x.tune(4, 1);
        x.sawn(1 << 2 | 1 << 0);
        // from 20: 7, 3, 3; 15, 7, 7; 8 by 1
        fall(x, 1, 3 + 7 + 8, 1 << 3 | 1 << 5);
        // from a sawn one, as told of any branch
        fall(x, 2, 6 + 7, 1 << 5);
    }

    private static void promise21Sides() {
        TreeClimb x = Check.grown("branch 20 0 1 0;branch 15 7 1 0;branch 10 1 1 0;branch 5 2 1 0;branch 20 1 1 0;");
        // near is what is near the first place: 7 and 1 are, 2 is not
        fall(x, 0, 2 + 3 + 3 * 13, 1 << 1 | 1 << 2);
        // from side 1: not 7; 10, 5, 5; 10, 5, 5; 10 by 3
        fall(x, 4, 5 + 5 + 30, 1 << 2 | 1 << 3);
        fall(x, 3, 15, 0);
        TreeClimb level = Check.grown("branch 9 0 1 0;branch 9 0 1 0;");
        fall(level, 0, 27, 0);
        fall(level, 1, 27, 0);
    }

    private static void promise21Wrong() {
        TreeClimb x = Check.grown("branch 20 0 1 0;");
        CHECK.same("branch 1", x.fall(1, 0), -1);
        CHECK.same("branch -1", x.fall(-1, 0), -1);
        CHECK.same("what 2", x.fall(0, 2), -1);
        CHECK.same("what -1", x.fall(0, -1), -1);
        CHECK.same("no tree", new TreeClimb().fall(0, 0), -1);
    }

    private static void saw(TreeClimb x, int m, int h, long set, long many) {
        CHECK.row("saw(0, " + m + ", " + h + ")", new long[] {x.saw(0, m, h, 0), x.saw(0, m, h, 1)}, set, many);
    }

    private static void promise22() {
        // 20 is reached from 10 alone
        TreeClimb x = Check.grown("branch 5 0 10 9;branch 10 0 10 9;branch 20 0 10 9;body 10 20 9;");
        fall(x, 0, 15, 0);
        fall(x, 1, 2 + 21, 1);
        fall(x, 2, 5 + 5 + 30, 3);
        saw(x, 40, 20, 0, 0);
        // no way to 20 once it is sawn, or 10 is
        saw(x, 39, 0, 2, 1);
        saw(x, 39, 10, 4, 1);
        saw(x, 39, 11, TreeClimb.NONE, TreeClimb.NONE);
        // without 5, 10 falls by 30
        saw(x, 22, 0, 2, 1);
        saw(x, 22, 5, 2, 1);
        saw(x, 22, 6, TreeClimb.NONE, TreeClimb.NONE);
        saw(x, 14, 0, 3, 2);
        saw(x, 14, 1, TreeClimb.NONE, TreeClimb.NONE);
        x.sawn(4);
        // 5 and 10 are left
        saw(x, 39, 10, 0, 0);
        saw(x, 22, 5, 2, 1);
        saw(x, 0, 0, 3, 2);
        x.sawn(2);
        saw(x, 15, 5, 0, 0);
        saw(x, 0, 0, 1, 1);
        CHECK.same("what is sawn stays", x.sawn(0), 2);
    }

    private static void promise22Ties() {
        TreeClimb x = Check.grown("branch 9 4 10 9;branch 9 0 10 9;branch 12 2 10 0;branch 9 2 10 9;body 12 20 9;");
        // each of the three that hold falls by 27; the fourth is never reached
        saw(x, 27, 9, 0, 0);
        saw(x, 26, 0, 11, 3);
        saw(x, 26, 1, TreeClimb.NONE, TreeClimb.NONE);
        x.sawn(1);
        saw(x, 26, 0, 10, 2);
        TreeClimb fork = Check.grown("branch 4 0 10 9;branch 16 0 10 9;branch 16 1 10 9;branch 5 1 10 9;branch 16 7 10 9;"
            + "body 12 20 9;");
        // from 4 and from 5 one comes to each of the three of 16, who fall hard
        saw(fork, 15, 0, 9, 2);
        TreeClimb wall = Check.grown("branch 99 0 10 9;branch 4 0 10 9;body 5 20 9;");
        saw(wall, 12, 0, 0, 0);
        saw(wall, 11, 0, 2, 1);
    }

    private static void promise22Many() {
        String four = "branch 9 0 10 9;branch 9 2 10 9;branch 9 4 10 9;branch 9 6 10 9;body 9 20 9;";
        TreeClimb x = Check.grown(four);
        saw(x, 27, 9, 0, 0);
        saw(x, 26, 0, TreeClimb.NONE, TreeClimb.NONE);
        x.sawn(4);
        saw(x, 26, 0, 11, 3);
        TreeClimb none = Check.grown("body 9 20 9;");
        saw(none, 0, 0, 0, 0);
        saw(none, 0, 1, TreeClimb.NONE, TreeClimb.NONE);
        TreeClimb ten = Check.grown("branch 10 0 10 9;body 9 20 9;");
        saw(ten, 0, 0, 0, 0);
        ten.tune(5, 1);
        saw(ten, 0, 0, 1, 1);
        TreeClimb all = Check.grown("branch 9 0 10 9;".repeat(12) + "body 9 20 9;");
        saw(all, 27, 9, 0, 0);
        saw(all, 26, 9, TreeClimb.NONE, TreeClimb.NONE);
        TreeClimb soft = Check.grown("branch 20 0 10 9;branch 10 0 10 9;branch 19 0 10 9;body 20 20 9;");
        // sawing off what is struck makes the fall harder: 10 + .. by a branch less
        fall(soft, 0, 0 + 4 + 3 * 14, 6);
        saw(soft, 46, 20, 0, 0);
        saw(soft, 45, 20, TreeClimb.NONE, TreeClimb.NONE);
        soft.tune(4, 1);
        saw(soft, 18, 20, 0, 0);
        saw(soft, 17, 20, TreeClimb.NONE, TreeClimb.NONE);
    }

    private static void promise22Wrong() {
        TreeClimb x = Check.grown("branch 5 0 10 9;body 10 20 9;");
        CHECK.same("body 1", x.saw(1, 0, 0, 0), -1);
        CHECK.same("body -1", x.saw(-1, 0, 0, 0), -1);
        CHECK.same("m -1", x.saw(0, -1, 0, 0), -1);
        CHECK.same("m 10000", x.saw(0, 10000, 0, 0), -1);
        CHECK.same("h -1", x.saw(0, 0, -1, 0), -1);
        CHECK.same("h 100", x.saw(0, 0, 100, 0), -1);
        CHECK.same("what -1", x.saw(0, 0, 0, -1), -1);
        CHECK.same("what 2", x.saw(0, 0, 0, 2), -1);
        CHECK.same("m 9999, h 99", x.saw(0, 9999, 99, 0), TreeClimb.NONE);
    }
}
