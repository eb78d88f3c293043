/** Promises 23 to 25: afternoon, dares, looked. */
public final class AfternoonTest {
    private static final Check CHECK = new Check("AfternoonTest");

    public static void main(String[] args) {
        promise23();
        promise24();
        promise25();
        CHECK.end();
    }

    private static TreeClimb bodies() {
        return Check.grown("body 1 1 1;body 2 2 2;body 3 3 3;");
    }

    private static void promise23() {
        TreeClimb x = bodies();
        CHECK.same("no body 3", x.afternoon(3, 0, 0), -1);
        CHECK.same("no body -1", x.afternoon(-1, 0, 0), -1);
        CHECK.same("-1 lookers", x.afternoon(0, -1, 0), -1);
        CHECK.same("10 lookers", x.afternoon(0, 10, 0), -1);
        CHECK.same("-1 high", x.afternoon(0, 0, -1), -1);
        CHECK.same("100 high", x.afternoon(0, 0, 100), -1);
        CHECK.same("none came", x.count(2), 0);
        for (int i = 1; i <= 40; i++) {
            CHECK.same("afternoon " + i, x.afternoon(i % 3, i % 10, 99 - i), i);
        }
        CHECK.same("the 41st", x.afternoon(0, 0, 0), TreeClimb.FULL);
        CHECK.same("BAD ahead of FULL", x.afternoon(0, 0, 100), -1);
        CHECK.same("still 40", x.count(2), 40);
        CHECK.same("none without bodies", new TreeClimb().afternoon(0, 0, 0), -1);
    }

    private static void dares(TreeClimb x, int p, int l, int h, long upper, long lower) {
        String call = "dares(" + p + ", " + l + ", " + h + ")";
        CHECK.row(call, new long[] {x.dares(p, l, h, 0), x.dares(p, l, h, 1)}, upper, lower);
    }

    private static void promise24() {
        TreeClimb x = bodies();
        dares(x, 0, 0, 0, 0, 1);
        x.afternoon(0, 0, 10);
        x.afternoon(0, 3, 20);
        x.afternoon(1, 9, 99);
        x.afternoon(0, 3, 30);
        x.afternoon(0, 9, 40);
        x.afternoon(0, 5, 0);
        x.afternoon(0, 0, 99);
        dares(x, 0, 0, 0, 1, 1);
        dares(x, 0, 0, 20, 2, 3);
        dares(x, 0, 0, 21, 1, 2);
        dares(x, 0, 3, 20, 3, 4);
        dares(x, 0, 3, 30, 1, 2);
        dares(x, 0, 4, 30, 1, 2);
        dares(x, 0, 4, 41, 0, 1);
        dares(x, 0, 9, 40, 1, 1);
        dares(x, 0, 0, 99, 1, 6);
        dares(x, 1, 9, 99, 1, 1);
        dares(x, 2, 0, 0, 0, 1);
        CHECK.same("body 3", x.dares(3, 0, 0, 0), -1);
        CHECK.same("body -1", x.dares(-1, 0, 0, 0), -1);
        CHECK.same("l -1", x.dares(0, -1, 0, 0), -1);
        CHECK.same("l 10", x.dares(0, 10, 0, 0), -1);
        CHECK.same("h -1", x.dares(0, 0, -1, 0), -1);
        CHECK.same("h 100", x.dares(0, 0, 100, 0), -1);
        CHECK.same("what -1", x.dares(0, 0, 0, -1), -1);
        CHECK.same("what 2", x.dares(0, 0, 0, 2), -1);
    }

    private static void promise25() {
        TreeClimb x = bodies();
        CHECK.same("none", x.looked(0), TreeClimb.NO);
        x.afternoon(0, 1, 12);
        CHECK.same("none without", x.looked(0), TreeClimb.NO);
        x.afternoon(1, 0, 50);
        CHECK.same("none with", x.looked(1), TreeClimb.NO);
        CHECK.same("another's do not count", x.looked(0), TreeClimb.NO);
        x.afternoon(0, 0, 10);
        CHECK.same("12 less 10", x.looked(0), 200);
        x.afternoon(0, 9, 12);
        x.afternoon(0, 5, 13);
        CHECK.same("12.33 less 10", x.looked(0), 233);
        x.afternoon(0, 0, 11);
        x.afternoon(0, 0, 11);
        CHECK.same("each is rounded: 12.33 less 10.66", x.looked(0), 1233 - 1066);
        x.afternoon(2, 9, 1);
        x.afternoon(2, 0, 0);
        CHECK.same("0 high counts", x.looked(2), 100);
        x.afternoon(2, 0, 99);
        x.afternoon(2, 0, 0);
        x.afternoon(2, 3, 0);
        CHECK.same("50 hundredths less 33 whole ones", x.looked(2), 50 - 3300);
        x.afternoon(1, 1, 0);
        CHECK.same("less than without", x.looked(1), -5000);
        CHECK.same("body 3", x.looked(3), TreeClimb.NO);
        CHECK.same("body -1", x.looked(-1), TreeClimb.NO);
        CHECK.same("no body", new TreeClimb().looked(0), TreeClimb.NO);
    }
}
