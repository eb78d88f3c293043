/** Promises 30 to 34: mark, keep, back, count, trace. */
public final class ImageTest {
    private static final Check CHECK = new Check("ImageTest");

    public static void main(String[] args) {
        promise30();
        promise31And32();
        promise32Else();
        promise33();
        promise34();
        CHECK.end();
    }

    private static void promise30() {
        TreeClimb x = Check.grown("branch 12 5 9 4 wet;branch 1 7 30 0 nest;");
        CHECK.row("marks of 0", marks(x, 0), 12, 21, 6, 12, 16, 17);
        CHECK.row("marks of 1", marks(x, 1), 1, 31, -9, -18, 24, 1);
        x.sawn(1);
        CHECK.same("sawn, still a branch", x.mark(0, 0), 12);
        long trace = x.trace();
        CHECK.same("kind -1", x.mark(-1, 0), TreeClimb.NO);
        CHECK.same("kind 6", x.mark(6, 0), TreeClimb.NO);
        CHECK.same("branch -1", x.mark(0, -1), TreeClimb.NO);
        CHECK.same("branch 2", x.mark(0, 2), TreeClimb.NO);
        CHECK.same("nothing was asked", x.trace(), trace);
    }

    private static long[] marks(TreeClimb x, int b) {
        long[] row = new long[6];
        for (int kind = 0; kind < 6; kind++) {
            row[kind] = x.mark(kind, b);
        }
        return row;
    }

    private static void promise31And32() {
        TreeClimb x = Check.grown("branch 7 0 30 10;branch 13 0 30 10;branch 14 0 10 0;body 9 20 9;body 9 20 9;");
        CHECK.same("keep -1", x.keep(-1), -1);
        CHECK.same("keep 2", x.keep(2), -1);
        CHECK.same("back -1", x.back(-1), -1);
        CHECK.same("back 2", x.back(2), -1);
        CHECK.same("none was kept", x.back(0), TreeClimb.STATE);
        x.goes(1);
        x.climb(0);
        x.climb(2);
        x.climb(0);
        x.climb(1);
        x.sawn(1);
        x.lot(77);
        CHECK.same("hurt", x.keep(1), 21);
        CHECK.same("none was kept in 0", x.back(0), TreeClimb.STATE);
        x.goes(0);
        x.sawn(6);
        x.lot(5);
        CHECK.same("hurt of another climb", x.keep(0), 0);
        CHECK.same("hurt again", x.back(1), 21);
        CHECK.row("as it was", new long[] {x.now(0), x.now(1), x.now(2), x.now(3), x.now(4), x.now(5)}, 1, 1, 21, 13, 3, 1);
        CHECK.same("sawn as it was", x.sawn(3), 1);
        CHECK.same("lot as it was", x.lot(78), 77);
        x.climb(-1);
        x.climb(2);
        CHECK.same("an image can be had again", x.back(1), 21);
        CHECK.same("where", x.now(1), 1);
        CHECK.same("sawn again", x.sawn(0), 1);
        CHECK.same("lot again", x.lot(1), 77);
        CHECK.same("the other image", x.back(0), 0);
        CHECK.row("as it was", new long[] {x.now(0), x.now(1), x.now(2), x.now(3), x.now(4), x.now(5)}, 0, -1, 0, 0, 0, 0);
        CHECK.same("the other's lot", x.lot(1), 5);
        CHECK.same("the other's sawn", x.sawn(0), 6);
    }

    private static void promise32Else() {
        TreeClimb x = Check.grown("branch 7 0 30 10;body 9 20 9;");
        x.keep(0);
        x.tune(0, 5);
        x.afternoon(0, 1, 1);
        x.mark(0, 0);
        Check.write(x, "wet");
        x.back(0);
        CHECK.same("no tunes in it", x.tune(0, 5), 5);
        CHECK.same("no afternoons in it", x.count(2), 1);
        CHECK.same("no trace in it", x.trace(), 1);
        CHECK.same("no text in it", x.count(4), 3);
        x.climb(0);
        x.keep(0);
        x.goes(0);
        x.back(0);
        CHECK.same("kept anew", x.now(1), 0);
        TreeClimb none = new TreeClimb();
        CHECK.same("of no tree", none.keep(0), 0);
        none.lot(9);
        CHECK.same("of no tree", none.back(0), 0);
        CHECK.same("its lot", none.lot(0), 1);
    }

    private static void promise33() {
        TreeClimb x = Check.grown("branch 7 0 30 10;".repeat(12) + "body 9 20 9;".repeat(2));
        x.sawn(1 << 11 | 1 << 4 | 1 << 20);
        x.afternoon(0, 0, 0);
        Check.write(x, "bra");
        CHECK.row("count", new long[] {x.count(0), x.count(1), x.count(2), x.count(3), x.count(4)}, 12, 2, 1, 2, 3);
        CHECK.same("what -1", x.count(-1), -1);
        CHECK.same("what 5", x.count(5), -1);
    }

    private static void promise34() {
        TreeClimb x = Check.grown("branch 12 5 9 4 wet;");
        long[] each = {1, 11, 101, 1101, 10011, 100001};
        long sum = 0;
        for (int round = 0; round < 40; round++) {
            for (int kind = 0; kind < 6; kind++) {
                x.mark(kind, 0);
                sum += each[kind];
                CHECK.same("trace", x.trace(), sum);
            }
        }
        CHECK.same("of its own object", new TreeClimb().trace(), 0);
    }
}
