/** Promises 17 to 20: tried, tries, sway, calm. */
public final class TryTest {
    private static final Check CHECK = new Check("TryTest");

    public static void main(String[] args) {
        promise17();
        promise17Edges();
        promise18();
        promise19();
        promise19Wrong();
        promise20();
        CHECK.end();
    }

    private static TreeClimb tree() {
        return Check.grown("branch 10 0 10 5;branch 7 0 7 0;branch 7 0 30 10;branch 7 0 30 1;branch 99 0 1 3;"
            + "body 9 50 9;body 9 99 0;body 9 1 0;");
    }

    private static void tried(TreeClimb x, int b, int q, int n, long upper, long lower) {
        String call = "tried(" + b + ", " + q + ", " + n + ")";
        CHECK.row(call, new long[] {x.tried(b, q, n, 0), x.tried(b, q, n, 1)}, upper, lower);
    }

    private static void promise17() {
        TreeClimb x = tree();
        tried(x, 0, 3, 0, 1, 2);
        tried(x, 0, 3, 1, 10, 17);
        tried(x, 0, 3, 2, 100, 149);
        tried(x, 0, 5, 9, 512, 513);
        tried(x, 3, 1, 9, 1000000000L, 1000000000L + 9L * 387420489L);
        tried(x, 3, 2, 9, 1953125, 1953125 + 9L * 262144);
        tried(x, 4, 0, 9, 3, 10);
        tried(x, 2, 10, 9, 1, 1);
        tried(x, 2, 0, 0, 1, 1);
        x.sawn(1);
        tried(x, 0, 3, 1, 10, 17);
    }

    private static void promise17Edges() {
        TreeClimb x = tree();
        tried(x, 1, 10, 0, 0, 1);
        tried(x, 1, 10, 1, 0, 1);
        tried(x, 1, 9, 9, 0, 1);
        tried(x, 1, 0, 9, 0, 1);
        tried(x, 3, 10, 1, 1, 1);
        tried(x, 3, 10, 0, 1, 10);
        CHECK.same("branch -1", x.tried(-1, 1, 1, 0), -1);
        CHECK.same("branch 5", x.tried(5, 1, 1, 0), -1);
        CHECK.same("q -1", x.tried(0, -1, 1, 0), -1);
        CHECK.same("q 11", x.tried(0, 11, 1, 0), -1);
        CHECK.same("n -1", x.tried(0, 1, -1, 0), -1);
        CHECK.same("n 10", x.tried(0, 1, 10, 0), -1);
        CHECK.same("what -1", x.tried(0, 1, 1, -1), -1);
        CHECK.same("what 2", x.tried(0, 1, 1, 2), -1);
    }

    private static void promise18() {
        TreeClimb x = tree();
        // by 5 of ten: 1/2, 2/3, 4/5, 8/9, 16/17, 32/33, 64/65, 128/129, 256/257, 512/513
        CHECK.same("50", x.tries(0, 5, 50), 0);
        CHECK.same("51", x.tries(0, 5, 51), 1);
        CHECK.same("66", x.tries(0, 5, 66), 1);
        CHECK.same("67", x.tries(0, 5, 67), 2);
        CHECK.same("80", x.tries(0, 5, 80), 2);
        CHECK.same("81", x.tries(0, 5, 81), 3);
        CHECK.same("99", x.tries(0, 5, 99), 7);
        CHECK.same("100", x.tries(0, 5, 100), TreeClimb.NONE);
        CHECK.same("100, one try says all", x.tries(0, 10, 100), 1);
        CHECK.same("100, sound", x.tries(2, 5, 100), 0);
        CHECK.same("0", x.tries(0, 5, 0), 0);
        CHECK.same("0, none sound", x.tries(1, 10, 0), 0);
        CHECK.same("1, none sound", x.tries(1, 10, 1), TreeClimb.NONE);
        CHECK.same("it never gives", x.tries(0, 0, 51), TreeClimb.NONE);
        // 1/10 and q 3: the ninth of 10/(10+9*0.7^n) is above 73 of 100, the eighth is not
        CHECK.same("the ninth", x.tries(3, 3, 73), 9);
        CHECK.same("none of ten", x.tries(3, 3, 74), TreeClimb.NONE);
        CHECK.same("branch -1", x.tries(-1, 1, 1), -1);
        CHECK.same("branch 5", x.tries(5, 1, 1), -1);
        CHECK.same("q -1", x.tries(0, -1, 1), -1);
        CHECK.same("q 11", x.tries(0, 11, 1), -1);
        CHECK.same("h -1", x.tries(0, 1, -1), -1);
        CHECK.same("h 101", x.tries(0, 1, 101), -1);
    }

    private static void promise19() {
        TreeClimb x = tree();
        // WIDE: 10, 18, 16, 8, 4, 7, 13, 15 ..
        CHECK.same("push 10, thick 10", x.sway(0, 0, 10), 18);
        CHECK.same("the same, heavier: 18 times 99 by 50", x.sway(1, 0, 10), 35);
        CHECK.same("the same, light: 18 by 50", x.sway(2, 0, 10), 0);
        // WIDE: 2, 5, 7, 7, 5, 2, 0, 0, 2, 4 ..
        CHECK.same("push 2, thick 7", x.sway(1, 1, 3), 13);
        CHECK.same("the same, 50", x.sway(0, 1, 3), 7);
        CHECK.same("no push", x.sway(0, 1, 1), 0);
        CHECK.same("no wind", x.sway(1, 4, 0), 0);
        // thin and high: it goes out for all 24 rounds
        CHECK.same("push 198, thick 1", x.sway(0, 4, 20), wideOf(198, 1));
        CHECK.same("push 14, thick 30", x.sway(0, 2, 20), wideOf(14, 30));
        x.sawn(1);
        CHECK.same("sawn, still a branch", x.sway(0, 0, 10), 18);
    }

    private static int wideOf(int push, int thick) {
        int[] wide = new int[25];
        int[] speed = new int[25];
        int most = 0;
        for (int i = 1; i <= 24; i++) {
            speed[i] = speed[i - 1] + (push - (wide[i - 1] * thick) / 10) - speed[i - 1] / 4;
            wide[i] = wide[i - 1] + speed[i];
            most = Math.max(most, Math.abs(wide[i]));
        }
        return most;
    }

    private static void promise19Wrong() {
        TreeClimb x = tree();
        CHECK.same("body 3", x.sway(3, 0, 1), -1);
        CHECK.same("body -1", x.sway(-1, 0, 1), -1);
        CHECK.same("branch 5", x.sway(0, 5, 1), -1);
        CHECK.same("branch -1", x.sway(0, -1, 1), -1);
        CHECK.same("wind -1", x.sway(0, 0, -1), -1);
        CHECK.same("wind 21", x.sway(0, 0, 21), -1);
    }

    private static void promise20() {
        for (int l : new int[] {0, 1, 5, 17, 18, 34, 35, 100, 400, 9999}) {
            for (int p = 0; p < 3; p++) {
                TreeClimb x = tree();
                for (int b = 0; b < 5; b++) {
                    int want = 0;
                    while (want < 20 && x.sway(p, b, want + 1) <= l) {
                        want++;
                    }
                    CHECK.same("calm(" + p + ", " + b + ", " + l + ")", x.calm(p, b, l), want);
                }
            }
        }
        TreeClimb x = tree();
        CHECK.same("l 18 of push 10", x.calm(0, 0, 18), 10);
        CHECK.same("l 17", x.calm(0, 0, 17), 9);
        CHECK.same("l -1", x.calm(0, 0, -1), -1);
        CHECK.same("l 10000", x.calm(0, 0, 10000), -1);
        CHECK.same("body 3", x.calm(3, 0, 1), -1);
        CHECK.same("body -1", x.calm(-1, 0, 1), -1);
        CHECK.same("branch 5", x.calm(0, 5, 1), -1);
        CHECK.same("branch -1", x.calm(0, -1, 1), -1);
    }
}
