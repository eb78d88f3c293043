/** Promises 9 and 10: step, holds. */
public final class StepTest {
    private static final Check CHECK = new Check("StepTest");

    public static void main(String[] args) {
        upAndDown();
        level();
        sides();
        weight();
        ground();
        sawn();
        wrongSteps();
        promise10();
        promise10Tunes();
        CHECK.end();
    }

    private static void upAndDown() {
        TreeClimb x = Check.grown("branch 10 0 30 10;branch 17 0 30 10;branch 18 0 30 10;body 7 9 9;body 1 9 9;");
        CHECK.same("up by reach", x.step(0, 0, 1), 1);
        CHECK.same("up by one more", x.step(0, 0, 2), 0);
        CHECK.same("down by one", x.step(0, 2, 1), 1);
        CHECK.same("down by reach, blind 2", x.step(0, 1, 0), 0);
        x.tune(2, 0);
        CHECK.same("down by reach, blind 0", x.step(0, 1, 0), 1);
        CHECK.same("down by one more, blind 0", x.step(0, 2, 0), 0);
        x.tune(2, 6);
        CHECK.same("down by one, blind 6", x.step(0, 2, 1), 1);
        x.tune(2, 7);
        CHECK.same("down by one, blind 7", x.step(0, 2, 1), 0);
        x.tune(2, 9);
        CHECK.same("up by one, blinder than its reach", x.step(1, 1, 2), 1);
        CHECK.same("up by reach, blind 9", x.step(0, 0, 1), 1);
        CHECK.same("down by one, blind 9", x.step(0, 2, 1), 0);
    }

    private static void level() {
        TreeClimb x = Check.grown("branch 10 0 30 10;branch 10 2 30 10;branch 10 3 30 10;branch 10 0 30 10;body 1 9 9;");
        x.tune(2, 9);
        CHECK.same("level, two sides on", x.step(0, 0, 1), 1);
        CHECK.same("level, three sides on", x.step(0, 0, 2), 0);
        CHECK.same("level, one side on", x.step(0, 2, 1), 1);
        CHECK.same("level, the same side", x.step(0, 0, 3), 1);
        x.tune(1, 0);
        CHECK.same("level, turn 0", x.step(0, 0, 1), 0);
        CHECK.same("level, turn 0, the same side", x.step(0, 0, 3), 1);
    }

    private static void sides() {
        TreeClimb x = Check.grown("branch 9 0 30 10;branch 8 7 30 10;branch 8 6 30 10;branch 8 5 30 10;"
            + "branch 8 4 30 10;branch 8 3 30 10;branch 8 1 30 10;body 30 9 9;");
        int[] apart = {1, 2, 3, 4, 3, 1};
        for (int turn = 0; turn <= 4; turn++) {
            x.tune(1, turn);
            for (int b = 1; b <= 6; b++) {
                CHECK.same("to " + b + ", turn " + turn, x.step(0, 0, b), apart[b - 1] <= turn ? 1 : 0);
                CHECK.same("from " + b + ", turn " + turn, x.step(0, b, 0), apart[b - 1] <= turn ? 1 : 0);
            }
            CHECK.same("ground lies on all sides", x.step(0, -1, 4), 1);
            CHECK.same("to the ground from any side", x.step(0, 4, -1), 1);
        }
    }

    private static void weight() {
        TreeClimb x = Check.grown("branch 5 0 7 10;branch 6 0 30 10;body 9 21 0;body 9 22 0;body 9 99 0;");
        CHECK.same("21 on 7 by 3", x.step(0, -1, 0), 1);
        CHECK.same("22 on 7 by 3", x.step(1, -1, 0), 0);
        CHECK.same("99 on 30 by 3", x.step(2, -1, 1), 0);
        CHECK.same("22 down onto it", x.step(1, 1, 0), 0);
        CHECK.same("99 from it onto the ground", x.step(2, 0, -1), 1);
        x.tune(0, 4);
        CHECK.same("22 on 7 by 4", x.step(1, -1, 0), 1);
        CHECK.same("99 on 30 by 4", x.step(2, -1, 1), 1);
        x.tune(0, 1);
        CHECK.same("21 on 7 by 1", x.step(0, -1, 0), 0);
    }

    private static void ground() {
        TreeClimb x = Check.grown("branch 9 3 30 10;branch 5 3 30 10;body 7 9 9;");
        CHECK.same("9 by 7", x.step(0, -1, 0), 0);
        x.tune(5, 1);
        CHECK.same("9 by 7, back 1", x.step(0, -1, 0), 0);
        x.tune(5, 2);
        CHECK.same("9 by 7, back 2", x.step(0, -1, 0), 1);
        CHECK.same("down 9 by 5, back 2", x.step(0, 0, -1), 0);
        CHECK.same("down 5 by 5", x.step(0, 1, -1), 1);
        TreeClimb y = Check.grown("branch 1 0 30 10;branch 9 0 30 10;body 7 9 9;");
        y.tune(5, 20);
        CHECK.same("no back from a branch", y.step(0, 0, 1), 0);
    }

    private static void sawn() {
        TreeClimb x = Check.grown("branch 5 0 30 10;branch 6 0 30 10;branch 7 0 30 10;body 9 9 9;");
        x.sawn(2);
        CHECK.same("onto a sawn one", x.step(0, 0, 1), 0);
        CHECK.same("from a sawn one", x.step(0, 1, 2), 0);
        CHECK.same("from a sawn one down", x.step(0, 1, -1), 0);
        CHECK.same("ground onto a sawn one", x.step(0, -1, 1), 0);
        CHECK.same("past a sawn one", x.step(0, 0, 2), 1);
    }

    private static void wrongSteps() {
        TreeClimb x = Check.grown("branch 5 0 30 10;branch 6 0 30 10;body 9 9 9;");
        CHECK.same("body 1", x.step(1, 0, 1), TreeClimb.BAD);
        CHECK.same("body -1", x.step(-1, 0, 1), TreeClimb.BAD);
        CHECK.same("from -2", x.step(0, -2, 1), TreeClimb.BAD);
        CHECK.same("from 2", x.step(0, 2, 1), TreeClimb.BAD);
        CHECK.same("to -2", x.step(0, 0, -2), TreeClimb.BAD);
        CHECK.same("to 2", x.step(0, 0, 2), TreeClimb.BAD);
        CHECK.same("one branch", x.step(0, 1, 1), TreeClimb.BAD);
        CHECK.same("one ground", x.step(0, -1, -1), TreeClimb.BAD);
        CHECK.same("far", x.step(0, Integer.MIN_VALUE, Integer.MAX_VALUE), TreeClimb.BAD);
    }

    private static void promise10() {
        TreeClimb x = Check.grown("branch 5 0 20 3;branch 5 0 20 3 wet;branch 5 0 20 0;branch 5 0 20 10 wet;"
            + "body 9 20 1;body 9 21 1;body 9 21 9;");
        CHECK.row("as thick as heavy", holdsOf(x, 0), 10, 7, 10, 7);
        CHECK.row("heavier", holdsOf(x, 1), 3, 0, 0, 7);
        CHECK.row("grip above slip", holdsOf(x, 2), 3, 3, 0, 10);
        x.sawn(1);
        CHECK.same("sawn, still a branch", x.holds(1, 0), 3);
        CHECK.same("body 3", x.holds(3, 0), TreeClimb.BAD);
        CHECK.same("body -1", x.holds(-1, 0), TreeClimb.BAD);
        CHECK.same("branch 4", x.holds(0, 4), TreeClimb.BAD);
        CHECK.same("the ground is no branch", x.holds(0, -1), TreeClimb.BAD);
    }

    private static void promise10Tunes() {
        TreeClimb x = Check.grown("branch 5 0 20 6 wet;body 9 21 0;");
        int[] want = {6, 5, 4, 3, 2, 1, 0, 0, 0, 0, 0};
        for (int slip = 0; slip <= 10; slip++) {
            x.tune(3, slip);
            CHECK.same("slip " + slip, x.holds(0, 0), want[slip]);
        }
        x.tune(0, 1);
        CHECK.same("bear does not matter", x.holds(0, 0), 0);
    }

    private static long[] holdsOf(TreeClimb x, int p) {
        long[] row = new long[4];
        for (int b = 0; b < 4; b++) {
            row[b] = x.holds(p, b);
        }
        return row;
    }
}
