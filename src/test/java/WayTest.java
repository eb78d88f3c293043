/** Promises 11 to 16: best, high, sure, help, stuck, rubbed. */
public final class WayTest {
    private static final Check CHECK = new Check("WayTest");
    /** Held by 5, 8, 9, 10 tenths; from each of the lower to each of the higher one may step. */
    private static final String FOUR = "branch 5 0 10 5;branch 5 1 10 8;branch 10 0 10 9;branch 10 1 10 10;"
        + "body 5 20 9;";

    public static void main(String[] args) {
        promise11();
        promise11Detours();
        promise11Long();
        promise11Wrong();
        promise12();
        promise13();
        promise14();
        promise15();
        promise15Wrong();
        promise16();
        promise16Sets();
        promise16Wrong();
        CHECK.end();
    }

    private static void best(String what, TreeClimb x, int from, int to, long... want) {
        long[] got = {x.best(0, from, to, 0), x.best(0, from, to, 1), x.best(0, from, to, 2)};
        CHECK.row(what + " from " + from + " to " + to, got, want);
    }

    private static void none(String what, TreeClimb x, int from, int to) {
        best(what, x, from, to, TreeClimb.NONE, TreeClimb.NONE, TreeClimb.NONE);
    }

    private static String chain(int many, int sound) {
        StringBuilder s = new StringBuilder();
        for (int h = 1; h <= many; h++) {
            s.append("branch ").append(h).append(" 0 1 ").append(sound).append(';');
        }
        return s.toString();
    }

    private static void promise11() {
        TreeClimb x = Check.grown(FOUR);
        best("four", x, -1, 0, 1, 2, 1);
        best("four", x, -1, 1, 4, 5, 1);
        best("four", x, -1, 2, 18, 25, 2);
        best("four", x, -1, 3, 4, 5, 2);
        best("to itself", x, 2, 2, 1, 1, 0);
        best("ground to itself", x, -1, -1, 1, 1, 0);
        none("down 5 by 3", x, 2, 0);
        none("down 5 by 3", x, 0, -1);
        x.tune(2, 0);
        best("down", x, 2, -1, 4, 5, 2);
        best("one step onto the ground is sure", x, 1, -1, 1, 1, 1);
        best("down and up again", x, 2, 0, 1, 2, 1);
        x.sawn(2);
        best("by the bad one", x, -1, 2, 9, 20, 2);
        none("to a sawn one", x, -1, 1);
        none("from a sawn one", x, 1, -1);
        best("a sawn one to itself", x, 1, 1, 1, 1, 0);
    }

    private static void promise11Detours() {
        TreeClimb x = Check.grown("branch 6 0 10 2;branch 3 1 10 9;branch 6 2 10 9;branch 12 1 10 10;body 6 20 9;");
        best("longer and better", x, -1, 3, 9, 10, 2);
        x.tune(1, 1);
        best("side 2 by side 1 only", x, -1, 2, 9, 10, 1);
        TreeClimb y = Check.grown("branch 6 0 10 2;branch 3 4 10 9;branch 7 3 10 9;branch 12 1 10 10;body 6 20 9;");
        best("three steps", y, -1, 3, 81, 100, 3);
        y.sawn(4);
        best("two steps", y, -1, 3, 1, 5, 2);
        TreeClimb z = Check.grown("branch 3 0 10 9;branch 3 4 10 7;body 5 20 9;");
        best("round by the ground", z, 0, 1, 7, 10, 2);
        TreeClimb zero = Check.grown("branch 3 0 10 0;branch 8 0 10 9;body 5 20 9;");
        CHECK.same("it may be", zero.step(0, -1, 0) + zero.step(0, 0, 1), 2);
        none("odds 0", zero, -1, 0);
        none("by odds 0", zero, -1, 1);
        best("from a branch of odds 0", zero, 0, 1, 9, 10, 1);
        TreeClimb wet = Check.grown("branch 3 0 20 9 wet;body 5 20 0;");
        best("wet", wet, -1, 0, 3, 5, 1);
    }

    private static void promise11Long() {
        TreeClimb nine = Check.grown(chain(12, 9) + "body 1 2 0;");
        best("12 steps by 9", nine, -1, 11, 282429536481L, 1000000000000L, 12);
        best("11 steps by 9", nine, 0, 11, 31381059609L, 100000000000L, 11);
        none("no way down", nine, 11, -1);
        nine.tune(2, 0);
        best("down 12", nine, 11, -1, 31381059609L, 100000000000L, 12);
        TreeClimb one = Check.grown(chain(12, 1) + "body 1 2 0;");
        best("12 steps by 1", one, -1, 11, 1, 1000000000000L, 12);
        TreeClimb five = Check.grown(chain(12, 5) + "body 1 2 0;");
        best("12 steps by 5", five, -1, 11, 1, 4096, 12);
        TreeClimb ten = Check.grown(chain(12, 10) + "body 3 2 0;");
        best("sure, by 3 at most", ten, -1, 11, 1, 1, 4);
    }

    private static void promise11Wrong() {
        TreeClimb x = Check.grown(FOUR);
        CHECK.same("body 1", x.best(1, -1, 0, 0), -1);
        CHECK.same("body -1", x.best(-1, -1, 0, 0), -1);
        CHECK.same("from -2", x.best(0, -2, 0, 0), -1);
        CHECK.same("from 4", x.best(0, 4, 0, 0), -1);
        CHECK.same("to -2", x.best(0, 0, -2, 0), -1);
        CHECK.same("to 4", x.best(0, 0, 4, 0), -1);
        CHECK.same("what -1", x.best(0, -1, 0, -1), -1);
        CHECK.same("what 3", x.best(0, -1, 0, 3), -1);
    }

    private static void promise12() {
        TreeClimb x = Check.grown("branch 5 0 10 5;branch 12 0 10 8;branch 19 0 10 1;branch 26 0 10 0;branch 27 0 30 9;"
            + "body 7 20 9;body 1 1 1;body 7 20 9;");
        CHECK.same("up to one that holds by 1", x.high(0, 0), 19);
        CHECK.same("down only from 5 by 5", x.high(0, 1), 5);
        x.tune(2, 0);
        CHECK.same("down 7 by 7", x.high(0, 1), 19);
        x.tune(2, 3);
        CHECK.same("down 5 by 4", x.high(0, 1), 0);
        CHECK.same("reach 1", x.high(1, 0), 0);
        CHECK.same("reach 1", x.high(1, 1), 0);
        x.tune(5, 4);
        CHECK.same("back 4", x.high(1, 0), 5);
        x.sawn(2);
        CHECK.same("sawn", x.high(0, 0), 5);
        x.sawn(1);
        CHECK.same("12 by 7 and 4", x.high(0, 0), 0);
        x.tune(5, 5);
        CHECK.same("12 by 7 and 5", x.high(0, 0), 19);
        CHECK.same("body 3", x.high(3, 0), -1);
        CHECK.same("body -1", x.high(-1, 0), -1);
        CHECK.same("what 2", x.high(0, 2), -1);
        CHECK.same("what -1", x.high(0, -1), -1);
        TreeClimb round = Check.grown("branch 9 0 10 5;branch 5 4 10 5;branch 12 4 10 5;branch 9 2 10 0;body 7 20 9;");
        round.tune(5, 2);
        CHECK.same("higher than what one comes down from", round.high(0, 0), 12);
        CHECK.same("and down again", round.high(0, 1), 5);
        TreeClimb first = Check.grown("branch 5 0 10 5;branch 2 4 10 5;branch 9 7 10 5;body 7 20 9;");
        CHECK.same("the first and highest of two", first.high(0, 1), 9);
        first.sawn(4);
        CHECK.same("the first, then a lower one", first.high(0, 1), 5);
        CHECK.same("no tree", new TreeClimb().high(0, 0), -1);
    }

    private static void promise13() {
        TreeClimb x = Check.grown(FOUR + "branch 15 0 10 10;branch 20 0 10 0;");
        // 10: by 8 and 10; 15: by these and 10
        CHECK.same("80", x.sure(0, 80), 15);
        CHECK.same("81", x.sure(0, 81), 0);
        CHECK.same("0: above 0 all the same", x.sure(0, 0), 15);
        CHECK.same("100", x.sure(0, 100), 0);
        x.sawn(1 << 3 | 1 << 4);
        CHECK.same("72", x.sure(0, 72), 10);
        CHECK.same("73", x.sure(0, 73), 5);
        CHECK.same("h -1", x.sure(0, -1), -1);
        CHECK.same("h 101", x.sure(0, 101), -1);
        CHECK.same("body 1", x.sure(1, 50), -1);
        CHECK.same("body -1", x.sure(-1, 50), -1);
        TreeClimb tiny = Check.grown(chain(12, 1) + "body 1 2 0;");
        CHECK.same("1 of 10 to the 12 is above 0", tiny.sure(0, 0), 12);
        CHECK.same("10 of 100", tiny.sure(0, 10), 1);
        CHECK.same("1 of 100", tiny.sure(0, 1), 2);
        CHECK.same("11 of 100", tiny.sure(0, 11), 0);
        TreeClimb three = Check.grown(chain(3, 9) + "body 1 2 0;");
        CHECK.same("729 of 1000 are 72 of 100", three.sure(0, 72), 3);
        CHECK.same("729 of 1000 are not 73 of 100", three.sure(0, 73), 2);
        TreeClimb whole = Check.grown(chain(12, 10) + "body 1 2 0;");
        CHECK.same("all sound", whole.sure(0, 100), 12);
    }

    private static void promise14() {
        TreeClimb x = Check.grown("branch 5 0 10 9;branch 12 4 10 9;branch 20 4 10 9;branch 25 0 10 0;"
            + "body 5 20 9;body 8 9 9;");
        CHECK.same("back 6", x.help(0, 6), 0);
        CHECK.same("back 7", x.help(0, 7), 7);
        CHECK.same("back 15", x.help(0, 15), 15);
        CHECK.same("back 20, a branch of odds 0", x.help(0, 20), 15);
        CHECK.same("back 3", x.help(1, 3), 0);
        CHECK.same("back 4, and on by 8", x.help(1, 4), 15);
        CHECK.same("back 0", x.help(0, 0), 0);
        TreeClimb six = Check.grown("branch 6 0 10 9;body 5 20 9;");
        CHECK.same("back 1", six.help(0, 1), 6);
        x.tune(5, 20);
        CHECK.same("the tune does not matter", x.help(0, 7), 7);
        CHECK.same("the tune stays", x.high(0, 0), 20);
        x.sawn(1);
        CHECK.same("from none", x.help(0, 7), 12);
        CHECK.same("b -1", x.help(0, -1), -1);
        CHECK.same("b 21", x.help(0, 21), -1);
        CHECK.same("body 2", x.help(2, 0), -1);
        CHECK.same("body -1", x.help(-1, 0), -1);
    }

    private static void promise15() {
        TreeClimb x = Check.grown("branch 30 0 10 9;branch 31 0 10 9;branch 61 0 10 9;branch 62 4 30 9;branch 92 7 30 9;"
            + "body 1 20 9;body 30 20 9;");
        CHECK.same("30 by 1 less 2", x.stuck(0, 0), TreeClimb.NONE);
        x.tune(2, 0);
        CHECK.same("30 by 1", x.stuck(0, 0), 29);
        CHECK.same("31 by 1, 1 to the next", x.stuck(0, 1), 29);
        CHECK.same("61 by 1, 30 to the next", x.stuck(0, 2), 29);
        CHECK.same("62 on the other side", x.stuck(0, 3), TreeClimb.NONE);
        CHECK.same("30 by 30", x.stuck(1, 0), 0);
        CHECK.same("31 by 1 and 30", x.stuck(1, 1), 0);
        CHECK.same("62 by 30", x.stuck(1, 3), TreeClimb.NONE);
        CHECK.same("92 by 30", x.stuck(1, 4), 1);
        x.sawn(3);
        CHECK.same("61 by 30", x.stuck(1, 2), TreeClimb.NONE);
        x.sawn(4);
        CHECK.same("from a sawn one", x.stuck(1, 2), TreeClimb.NONE);
        CHECK.same("31 by 30, a step up is none", x.stuck(1, 1), 0);
        TreeClimb sixty = Check.grown("branch 60 0 1 0;body 30 99 0;body 29 99 0;");
        sixty.tune(2, 0);
        CHECK.same("60 by 30", sixty.stuck(0, 0), 30);
        CHECK.same("60 by 29", sixty.stuck(1, 0), TreeClimb.NONE);
        TreeClimb up = Check.grown("branch 20 0 30 9;branch 25 2 30 9;branch 12 4 30 0;branch 11 3 30 9;body 5 31 9;");
        up.tune(2, 0);
        up.tune(0, 9);
        CHECK.same("round, not by odds 0", up.stuck(0, 0), 9);
    }

    private static void promise15Wrong() {
        TreeClimb x = Check.grown(FOUR);
        CHECK.same("body 1", x.stuck(1, 0), -1);
        CHECK.same("body -1", x.stuck(-1, 0), -1);
        CHECK.same("branch 4", x.stuck(0, 4), -1);
        CHECK.same("the ground is no branch", x.stuck(0, -1), -1);
    }

    private static void promise16() {
        TreeClimb x = Check.grown(chain(12, 0) + "body 30 2 0;");
        for (int b = 0; b < 12; b++) {
            CHECK.same("ways to " + b + ", odds do not matter", x.rubbed(0, b, 0), 1L << b);
        }
        TreeClimb two = Check.grown(chain(12, 10) + "body 2 2 0;");
        long[] steps = {1, 2, 3, 5, 8, 13, 21, 34, 55, 89, 144, 233};
        for (int b = 0; b < 12; b++) {
            CHECK.same("by two at most to " + b, two.rubbed(0, b, 0), steps[b]);
        }
        two.tune(5, 1);
        CHECK.same("back 1 from the ground alone", two.rubbed(0, 3, 0), 6);
        two.tune(5, 0);
        two.sawn(2);
        CHECK.same("past a sawn one", two.rubbed(0, 3, 0), 1);
        CHECK.same("to a sawn one", two.rubbed(0, 1, 0), 0);
        CHECK.same("by a sawn one", two.rubbed(0, 3, 2), 0);
    }

    private static void promise16Sets() {
        TreeClimb x = Check.grown(chain(12, 10) + "body 30 2 0;");
        CHECK.same("by one", x.rubbed(0, 11, 1 << 5), 1024);
        CHECK.same("by two", x.rubbed(0, 11, 1 << 5 | 1 << 6), 512);
        CHECK.same("by two apart", x.rubbed(0, 11, 1 << 2 | 1 << 8), 512);
        CHECK.same("by all", x.rubbed(0, 11, -1), 1);
        CHECK.same("by all below", x.rubbed(0, 11, (1 << 11) - 1), 1);
        CHECK.same("by itself", x.rubbed(0, 4, 1 << 4), 16);
        CHECK.same("by a higher one", x.rubbed(0, 4, 1 << 5), 0);
        CHECK.same("by what there is not", x.rubbed(0, 4, 1 << 12), 16);
        CHECK.same("by the sign's bit", x.rubbed(0, 4, Integer.MIN_VALUE | 1), 8);
        TreeClimb level = Check.grown("branch 4 0 9 9;branch 4 1 9 9;branch 8 0 9 9;branch 8 1 9 9;body 9 9 9;");
        CHECK.same("no level step", level.rubbed(0, 2, 0), 3);
        CHECK.same("by one of two", level.rubbed(0, 2, 1), 1);
        CHECK.same("by two as high", level.rubbed(0, 2, 3), 0);
        CHECK.same("by one as high as the goal", level.rubbed(0, 2, 8), 0);
        CHECK.same("by one as high as the first goal", level.rubbed(0, 0, 2), 0);
        level.tune(0, 1);
        CHECK.same("weight as thick", level.rubbed(0, 2, 0), 3);
        TreeClimb sides = Check.grown("branch 4 0 9 9;branch 4 4 9 9;branch 8 0 9 9;body 5 9 9;");
        CHECK.same("sides", sides.rubbed(0, 2, 0), 1);
        CHECK.same("by the other side", sides.rubbed(0, 2, 2), 0);
    }

    private static void promise16Wrong() {
        TreeClimb x = Check.grown(FOUR);
        CHECK.same("body 1", x.rubbed(1, 0, 0), -1);
        CHECK.same("body -1", x.rubbed(-1, 0, 0), -1);
        CHECK.same("branch 4", x.rubbed(0, 4, 0), -1);
        CHECK.same("the ground is no branch", x.rubbed(0, -1, 0), -1);
    }
}
