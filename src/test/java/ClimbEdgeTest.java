import java.util.function.Supplier;

/** Promises 23 to 34, boundary case by boundary case, as the sentences of the document name them. */
public final class ClimbEdgeTest {
    private static final Check CHECK = new Check("ClimbEdgeTest");
    private static final int BAD = TreeClimb.BAD, STATE = TreeClimb.STATE, FULL = TreeClimb.FULL;
    private static final int NO = TreeClimb.NO;
    private static final String THREE = "body 1 1 1;body 2 2 2;body 3 3 3;";
    /** Body 0 is held by 10 on 0 and 1, by 5 on 2, by 0 on 3, and can't step onto 4. */
    private static final String FIVE = "branch 5 0 30 9;branch 10 0 30 9;branch 12 0 9 5;branch 13 0 9 0;"
        + "branch 40 0 9 9;body 10 20 9;body 10 20 9;";

    public static void main(String[] args) {
        afternoon();
        dares();
        looked();
        goes();
        climbRefused();
        climbMayNotBe();
        climbDraws();
        climbLot();
        climbGround();
        climbFalls();
        climbTop();
        now();
        lot();
        mark();
        markRange();
        keepAndBack();
        backRefused();
        backKeepsNothingElse();
        count();
        trace();
        CHECK.end();
    }

    private static Caller tree(String text) {
        return new Caller(new TreeClimb()).tree(text);
    }

    private static void due(String told, Supplier<Caller> made, Object... callsAndAnswers) {
        CHECK.test(told, () -> {
            Caller x = made.get();
            for (int i = 0; i < callsAndAnswers.length; i += 2) {
                String call = (String) callsAndAnswers[i];
                CHECK.same(call, x.ask(call), ((Number) callsAndAnswers[i + 1]).longValue());
            }
        });
    }

    private static void due(String told, String text, Object... callsAndAnswers) {
        due(told, () -> tree(text), callsAndAnswers);
    }

    private static void refused(String told, Supplier<Caller> made, String call, long want) {
        CHECK.test(told, () -> CHECK.refused(call, made, want));
    }

    private static long[] nowOf(Caller x) {
        long[] now = new long[6];
        for (int what = 0; what < 6; what++) {
            now[what] = x.ask("now " + what);
        }
        return now;
    }

    private static void afternoon() {
        due("the first", THREE, "count 2", 0, "afternoon 0 0 0", 1, "count 2", 1);
        due("0 lookers, 0 high", THREE, "afternoon 0 0 0", 1);
        due("9 lookers, 99 high", THREE, "afternoon 2 9 99", 1);
        due("40 of one body", () -> tree(THREE).times(39, "afternoon 1 1 1"), "afternoon 1 1 1", 40, "count 2", 40);
        due("40 of all bodies together", () -> tree(THREE).times(20, "afternoon 0 1 1").times(19, "afternoon 1 1 1"),
            "afternoon 2 1 1", 40, "afternoon 2 1 1", FULL);
        Supplier<Caller> full = () -> tree(THREE).times(40, "afternoon 1 0 7");
        refused("the 41st", full, "afternoon 1 1 1", FULL);
        refused("the 41st, another body's", full, "afternoon 0 9 99", FULL);
        refused("BAD ahead of FULL: body", full, "afternoon 3 1 1", BAD);
        refused("BAD ahead of FULL: looked", full, "afternoon 0 10 1", BAD);
        refused("BAD ahead of FULL: high", full, "afternoon 0 1 100", BAD);
        refused("body -1", () -> tree(THREE), "afternoon -1 1 1", BAD);
        refused("looked -1", () -> tree(THREE), "afternoon 0 -1 1", BAD);
        refused("high -1", () -> tree(THREE), "afternoon 0 1 -1", BAD);
        refused("no bodies", () -> tree(""), "afternoon 0 1 1", BAD);
    }

    private static void dares(String told, Supplier<Caller> made, int l, int h, int upper, int lower) {
        String call = "dares 0 " + l + " " + h + " ";
        due(told, made, call + "0", upper, call + "1", lower);
    }

    private static void dares() {
        dares("none at all", () -> tree(THREE), 0, 0, 0, 1);
        Supplier<Caller> two = () -> tree(THREE).with("afternoon 0 4 30;afternoon 0 5 50");
        dares("l as many as looked", two, 4, 0, 1, 1);
        dares("l 1 more", two, 5, 31, 1, 1);
        dares("l more than ever looked: none", two, 6, 0, 0, 1);
        dares("h as high", two, 0, 50, 1, 2);
        dares("h 1 more", two, 0, 51, 0, 1);
        dares("h 1 less", two, 0, 49, 1, 2);
        dares("h as high as the lower", two, 0, 30, 1, 1);
        dares("h 1 more than the lower", two, 0, 31, 1, 2);
        Supplier<Caller> most = () -> tree(THREE).with("afternoon 0 9 99;afternoon 0 0 0;afternoon 0 8 99");
        dares("l 9, h 99", most, 9, 99, 1, 1);
        dares("l 0, h 0", most, 0, 0, 1, 1);
        dares("l 0, h 99", most, 0, 99, 2, 3);
        dares("l 0, h 1", most, 0, 1, 2, 3);
        dares("l 1, h 0", most, 1, 0, 1, 1);
        dares("least terms", () -> tree(THREE).times(30, "afternoon 0 1 9").times(10, "afternoon 0 1 8"), 1, 9, 3, 4);
        dares("40 of 40", () -> tree(THREE).times(40, "afternoon 0 1 9"), 0, 9, 1, 1);
        dares("1 of 40", () -> tree(THREE).times(39, "afternoon 0 1 8").with("afternoon 0 1 9"), 0, 9, 1, 40);
        dares("0 of 40", () -> tree(THREE).times(40, "afternoon 0 1 8"), 0, 9, 0, 1);
        dares("another body's do not count", () -> tree(THREE).with("afternoon 1 9 99;afternoon 0 9 1"), 9, 50, 0, 1);
        String[] bad = {"-1 0 0 0", "3 0 0 0", "0 -1 0 0", "0 10 0 0", "0 0 -1 0", "0 0 100 0", "0 0 0 -1", "0 0 0 2"};
        for (String numbers : bad) {
            refused("a number is not as told", two, "dares " + numbers, BAD);
        }
    }

    private static void looked() {
        due("none at all", THREE, "looked 0", NO);
        due("none without", () -> tree(THREE).with("afternoon 0 1 9"), "looked 0", NO);
        due("none with", () -> tree(THREE).with("afternoon 0 0 9"), "looked 0", NO);
        due("another body's do not count", () -> tree(THREE).with("afternoon 0 1 9;afternoon 1 0 9"), "looked 0", NO,
            "looked 1", NO);
        due("1 looker is one", () -> tree(THREE).with("afternoon 0 0 9;afternoon 0 1 10"), "looked 0", 100);
        due("9 lookers", () -> tree(THREE).with("afternoon 0 0 9;afternoon 0 9 10"), "looked 0", 100);
        due("as high", () -> tree(THREE).with("afternoon 0 0 9;afternoon 0 9 9"), "looked 0", 0);
        due("all the more", () -> tree(THREE).with("afternoon 0 0 0;afternoon 0 9 99"), "looked 0", 9900);
        due("all the less", () -> tree(THREE).with("afternoon 0 0 99;afternoon 0 9 0"), "looked 0", -9900);
        due("less by 1 of 34", () -> tree(THREE).times(33, "afternoon 0 0 0")
            .with("afternoon 0 0 1;afternoon 0 1 0"), "looked 0", -2);
        // 1 of 3 is 33 hundredths, 2 of 3 are 66
        due("the mean with lookers is rounded down", () -> tree(THREE).with("afternoon 0 0 0;afternoon 0 1 1")
            .times(2, "afternoon 0 1 0"), "looked 0", 33);
        due("the mean without is rounded down", () -> tree(THREE).with("afternoon 0 1 0;afternoon 0 0 1")
            .times(2, "afternoon 0 0 0"), "looked 0", -33);
        due("each mean is, not what is between: 100 less 33", () -> tree(THREE).with("afternoon 0 1 1;afternoon 0 0 1")
            .times(2, "afternoon 0 0 0"), "looked 0", 67);
        due("each mean is, not what is between: 33 less 100", () -> tree(THREE).with("afternoon 0 0 1;afternoon 0 1 1")
            .times(2, "afternoon 0 1 0"), "looked 0", -67);
        due("39 with, 1 without", () -> tree(THREE).times(39, "afternoon 0 5 99").with("afternoon 0 0 98"),
            "looked 0", 100);
        Supplier<Caller> before = () -> tree(THREE).times(20, "afternoon 0 0 99").times(20, "afternoon 0 9 99");
        due("a tree before does not count", () -> before.get().tree(THREE), "looked 0", NO);
        due("nor if there are some of this one", () -> before.get().tree(THREE).with("afternoon 0 9 7;afternoon 0 0 5"),
            "looked 0", 200, "dares 0 0 6 1", 2);
        due("nor if there are many", () -> before.get().tree(THREE).times(19, "afternoon 0 9 7")
            .with("afternoon 0 0 5"), "looked 0", 200, "dares 0 9 8 0", 0);
        refused("body -1", () -> tree(THREE), "looked -1", NO);
        refused("body 3", () -> tree(THREE), "looked 3", NO);
        due("the last body", () -> tree(THREE).with("afternoon 2 0 1;afternoon 2 1 3"), "looked 2", 200);
    }

    /** A lot whose next draw this is. */
    private static int lotFor(int draw) {
        int lot = 0;
        while (drawOf(lot) != draw) {
            lot++;
        }
        return lot;
    }

    private static long next(long lot) {
        return (lot * 1103515245L + 12345L) & 0xffffffffL;
    }

    private static int drawOf(long lot) {
        return (int) (next(lot) / 65536 % 10);
    }

    /** Body 1 has hurt, top, steps, falls, and is on branch 1. */
    private static Caller climbed() {
        return tree(FIVE).with("goes 1;climb 0;climb 3;climb 0;climb 1");
    }

    private static void goes() {
        CHECK.test("whose it was, and all is 0", () -> {
            Caller x = climbed();
            CHECK.row("before", nowOf(x), 1, 1, 15, 10, 3, 1);
            CHECK.same("goes", x.ask("goes 0"), 1);
            CHECK.row("then", nowOf(x), 0, -1, 0, 0, 0, 0);
            CHECK.same("goes", x.ask("goes 1"), 0);
        });
        CHECK.test("the same body again", () -> {
            Caller x = climbed();
            CHECK.same("goes", x.ask("goes 1"), 1);
            CHECK.row("then", nowOf(x), 1, -1, 0, 0, 0, 0);
        });
        due("the lot, what is sawn, the images stay", () -> climbed().with("sawn 9;lot 5;keep 0;goes 0"), "lot 6", 5,
            "sawn 0", 9, "back 0", 15, "now 1", 1, "back 1", STATE);
        refused("body 2", ClimbEdgeTest::climbed, "goes 2", BAD);
        refused("body -1", ClimbEdgeTest::climbed, "goes -1", BAD);
        due("body 2, the last of three", THREE, "goes 2", 0, "now 0", 2, "goes 3", BAD);
        due("no bodies", "branch 5 0 30 9;", "goes 0", BAD);
    }

    private static void climbRefused() {
        refused("no place 5", ClimbEdgeTest::climbed, "climb 5", NO);
        refused("no place -2", ClimbEdgeTest::climbed, "climb -2", NO);
        refused("one is there", ClimbEdgeTest::climbed, "climb 1", NO);
        refused("one is on the ground", () -> tree(FIVE), "climb -1", NO);
        refused("no body", () -> tree("branch 5 0 30 9;"), "climb 0", NO);
        refused("no body, the ground", () -> tree("branch 5 0 30 9;"), "climb -1", NO);
        refused("no body, but in the trees before", () -> tree(FIVE).tree(FIVE).tree("branch 5 0 30 9;"), "climb 0", NO);
        refused("no branch", () -> tree(THREE), "climb 0", NO);
        refused("no tree", () -> new Caller(new TreeClimb()), "climb 0", NO);
        due("the last branch", "branch 5 0 30 9;branch 5 4 30 9;body 10 20 9;", "climb 1", 1, "climb 2", NO);
    }

    private static void climbMayNotBe() {
        refused("too high", () -> tree(FIVE), "climb 4", NO);
        refused("too high by 1", () -> tree("branch 11 0 30 9;body 10 20 9;"), "climb 0", NO);
        due("as high as may be", "branch 10 0 30 9;body 10 20 9;", "climb 0", 0);
        refused("too low by 1", () -> tree("branch 9 0 30 9;body 10 20 9;").with("climb 0"), "climb -1", NO);
        due("as low as may be", () -> tree("branch 8 0 30 9;body 10 20 9;").with("climb 0"), "climb -1", -1);
        refused("a side too far", () -> tree("branch 8 0 30 9;branch 8 3 30 9;body 10 20 9;").with("climb 0"),
            "climb 1", NO);
        due("as far as may be", () -> tree("branch 8 0 30 9;branch 8 2 30 9;body 10 20 9;").with("climb 0"),
            "climb 1", 1);
        refused("it does not bear", () -> tree("branch 8 0 6 9;body 10 19 9;"), "climb 0", NO);
        refused("onto a sawn one", () -> tree(FIVE).with("sawn 1"), "climb 0", NO);
        refused("off a sawn one", () -> climbed().with("sawn 2"), "climb 0", NO);
        refused("off a sawn one, onto the ground", () -> tree(FIVE).with("climb 0;sawn 1"), "climb -1", NO);
        due("sawn no more", () -> tree(FIVE).with("climb 0;sawn 1;sawn 0"), "climb -1", -1);
        due("with back", () -> tree("branch 30 0 30 9;body 10 20 9;").with("tune 5 20"), "climb 0", 0);
    }

    private static void climbDraws() {
        for (int holds = 0; holds <= 10; holds++) {
            String text = "branch 5 0 1 " + holds + ";body 10 3 9;";
            for (int draw = 0; draw < 10; draw++) {
                String given = "lot " + lotFor(draw);
                boolean held = draw < holds;
                due("holds " + holds + ", draw " + draw, () -> tree(text).with(given), "climb 0", held ? 0 : -1,
                    "now 1", held ? 0 : -1, "now 2", 0, "now 3", held ? 5 : 0, "now 4", held ? 1 : 0,
                    "now 5", held ? 0 : 1);
            }
        }
        due("wet: draw 5 below holds 6", () -> tree("branch 5 0 9 9 wet;body 10 3 0;").with("lot " + lotFor(5)),
            "climb 0", 0);
        due("wet: draw 6 not below holds 6", () -> tree("branch 5 0 9 9 wet;body 10 3 0;").with("lot " + lotFor(6)),
            "climb 0", -1);
    }

    private static void climbLot() {
        for (int lot : new int[] {0, 1, -1, 2, Integer.MAX_VALUE, Integer.MIN_VALUE, 65535, 65536, 1 << 30, -65536}) {
            int then = (int) next(lot);
            int place = drawOf(lot) < 5 ? 0 : -1;
            due("the lot goes on, wrapped, from " + lot, () -> tree("branch 5 0 1 5;body 10 3 9;")
                .with("lot " + lot), "climb 0", place, "lot 0", then);
        }
        // 1103515245 and 12345: upper 16 bits 16838, of 12345: 0, of 12345 less 1103515245 (wrapped): 48697
        due("from 1: draw 8", "branch 5 0 1 8;body 10 3 9;", "climb 0", -1, "lot 0", 1103527590);
        due("from 1: draw 8 below 9", "branch 5 0 1 9;body 10 3 9;", "climb 0", 0);
        due("from 0: draw 0", () -> tree("branch 5 0 1 1;body 10 3 9;").with("lot 0"), "climb 0", 0, "lot 0", 12345);
        due("from -1: draw 7 of a lot below 0", () -> tree("branch 5 0 1 7;body 10 3 9;").with("lot -1"),
            "climb 0", -1, "lot 0", -1103502900);
        due("from -1: draw 7 below 8", () -> tree("branch 5 0 1 8;body 10 3 9;").with("lot -1"), "climb 0", 0);
        due("where holds is 10 the lot goes on, too", () -> tree(FIVE).with("lot 0"), "climb 0", 0, "lot 0", 12345);
        due("where holds is 0 the lot goes on, too", () -> tree("branch 5 0 1 0;body 10 3 9;").with("lot 0"),
            "climb 0", -1, "lot 0", 12345);
        due("a refused step leaves the lot", () -> tree(FIVE).with("lot 7"), "climb 4", NO, "climb 9", NO, "lot 0", 7);
    }

    private static void climbGround() {
        for (int draw = 0; draw < 10; draw++) {
            int lot = lotFor(draw);
            due("onto the ground no draw", () -> tree(FIVE).with("climb 0;lot " + lot), "climb -1", -1, "lot 0", lot,
                "now 4", 2, "now 5", 0, "now 2", 0, "now 3", 5);
        }
    }

    private static void climbFalls() {
        due("from the ground without harm", "branch 5 0 1 0;body 10 3 9;", "climb 0", -1, "now 2", 0, "now 5", 1,
            "now 4", 0);
        due("from 5 high: 15", () -> tree(FIVE).with("climb 0"), "climb 3", -1, "now 2", 15, "now 5", 1, "now 4", 1,
            "now 1", -1);
        // from 10: 5, blow 2, 2; 7 by 3
        due("from 10 high, by a branch", () -> tree(FIVE).with("climb 1"), "climb 3", -1, "now 2", 23);
        due("harm is of where one was, not of where one went",
            () -> tree("branch 9 0 4 0;branch 2 4 30 9;branch 3 3 30 9;body 8 30 9;")
            .with("tune 0 9;tune 1 4;climb 1"), "climb 0", -1, "now 2", 6);
        due("a sawn one is not struck", () -> tree(FIVE).with("climb 1;sawn 1"), "climb 3", -1, "now 2", 30);
        due("hard 9", () -> tree(FIVE).with("climb 0;tune 4 9"), "climb 3", -1, "now 2", 45);
        due("harm comes to hurt", () -> tree(FIVE).with("climb 0;climb 3;climb 0;climb 3"), "now 2", 30, "now 5", 2,
            "now 4", 2);
        due("after a fall one climbs from the ground on", () -> tree(FIVE).with("climb 0;climb 3"), "climb 0", 0,
            "now 1", 0, "climb -1", -1);
        due("a fall is no step", () -> tree(FIVE).with("climb 0;climb 3;climb 0;climb 1;climb 3"), "now 4", 3,
            "now 5", 2);
        due("200 falls from the ground", () -> tree("branch 5 0 1 0;body 10 3 9;").times(200, "climb 0"),
            "now 5", 200, "now 4", 0, "now 2", 0, "now 3", 0);
        due("100 falls by 15", () -> {
            Caller x = tree(FIVE);
            for (int i = 0; i < 100; i++) {
                x.with("climb 0;climb 3");
            }
            return x;
        }, "now 5", 100, "now 4", 100, "now 2", 1500);
    }

    private static void climbTop() {
        due("at first", FIVE, "now 3", 0);
        due("the greatest, not the last", () -> tree(FIVE).with("climb 0;climb 1;climb 0"), "now 3", 10, "now 1", 0);
        due("a step that did not hold is none", () -> tree(FIVE).with("climb 0;climb 3"), "now 3", 5);
        due("it stays after a fall", () -> tree(FIVE).with("climb 1;climb 3"), "now 3", 10, "now 1", -1);
        due("1 high", "branch 1 0 30 9;body 3 1 1;", "climb 0", 0, "now 3", 1, "climb -1", -1, "now 3", 1);
        due("99 high", () -> tree("branch 50 0 30 9;branch 80 0 30 9;branch 99 0 30 9;body 30 1 1;")
            .with("tune 5 20"), "climb 0", 0, "climb 1", 1, "climb 2", 2, "now 3", 99);
    }

    private static void now() {
        due("at first", FIVE, "now 0", 0, "now 1", -1, "now 2", 0, "now 3", 0, "now 4", 0, "now 5", 0);
        CHECK.test("each of its own", () -> CHECK.row("now", nowOf(climbed()), 1, 1, 15, 10, 3, 1));
        refused("what -1", ClimbEdgeTest::climbed, "now -1", NO);
        refused("what 6", ClimbEdgeTest::climbed, "now 6", NO);
    }

    private static void lot() {
        due("1 at first", "", "lot 0", 1);
        due("the least and the greatest", "", "lot -2147483648", 1, "lot 2147483647", -2147483648, "lot 0", 2147483647);
        due("0 and -1", "", "lot 0", 1, "lot -1", 0, "lot 1", -1, "lot 1", 1);
    }

    /** The marks of branch 0 as of the kinds 0 .. 5. */
    private static void marks(String told, String text, long... want) {
        long[] asked = {1, 11, 101, 1101, 10011, 100001};
        for (int kind = 0; kind < 6; kind++) {
            due(told + ", kind " + kind, text, "mark " + kind + " 0", want[kind], "trace", asked[kind]);
        }
    }

    private static void mark() {
        marks("the least", "branch 1 7 1 0;", 1, 2, -9, -18, -5, 1);
        marks("the least, wet", "branch 1 7 1 0 wet;", 1, 2, -9, -18, -5, 6);
        marks("the greatest", "branch 99 0 30 10 wet nest;", 99, 129, 99, 198, 129, 104);
        marks("the greatest, dry", "branch 99 0 30 10;", 99, 129, 99, 198, 129, 99);
        marks("side 7", "branch 50 7 10 5;", 50, 60, 45, 90, 53, 50);
        due("a sawn one is a branch still", () -> tree("branch 50 7 10 5;").with("sawn 1"), "mark 0 0", 50);
        due("the last branch", FIVE, "mark 0 4", 40, "mark 0 5", NO);
    }

    private static void markRange() {
        for (String numbers : new String[] {"-1 0", "6 0", "0 -1", "0 5", "6 -1", "-1 5"}) {
            refused("mark of none", ClimbEdgeTest::climbed, "mark " + numbers, NO);
        }
        refused("no branches", () -> tree(THREE), "mark 0 0", NO);
    }

    private static void keepAndBack() {
        for (int image = 0; image < 2; image++) {
            String keep = "keep " + image;
            String back = "back " + image;
            Supplier<Caller> kept = () -> climbed().with("lot 77;sawn 12;" + keep);
            due("hurt", ClimbEdgeTest::climbed, keep, 15, back, 15);
            String[] changes = {"goes 0", "climb 0", "sawn 0;climb 0;climb 3", "lot 5", "sawn 3",
                "goes 0;sawn 0;lot 5;climb 1"};
            for (String change : changes) {
                CHECK.test("all is as it was kept, ahead of: " + change, () -> {
                    Caller x = kept.get().with(change);
                    CHECK.same(back, x.ask(back), 15);
                    CHECK.row("now", nowOf(x), 1, 1, 15, 10, 3, 1);
                    CHECK.same("lot", x.ask("lot 1"), 77);
                    CHECK.same("sawn", x.ask("sawn 0"), 12);
                });
            }
            due("it can be had twice", kept, back, 15, "goes 0", 1, back, 15, "now 0", 1);
            due("kept anew", () -> kept.get().with("goes 0;sawn 1;" + keep + ";climb 1"), back, 0, "now 0", 0,
                "sawn 0", 1);
            due("the other one was not kept", kept, "back " + (1 - image), STATE);
            due("keeping changes nothing", kept, "now 1", 1, "sawn 0", 12, "lot 0", 77);
        }
        due("both are of their own", () -> climbed().with("keep 0;goes 0;keep 1;goes 1;climb 1"), "back 1", 0,
            "now 0", 0, "back 0", 15, "now 0", 1, "now 1", 1, "back 1", 0, "now 3", 0);
        due("without a tree", "", "keep 0", 0, "lot 9", 1, "back 0", 0, "lot 9", 1);
    }

    private static void backRefused() {
        for (String image : new String[] {"-1", "2", "-2147483648", "2147483647"}) {
            refused("no such image", () -> climbed().with("keep 0;keep 1"), "keep " + image, BAD);
            refused("no such image", () -> climbed().with("keep 0;keep 1;goes 0"), "back " + image, BAD);
            refused("BAD ahead of STATE", ClimbEdgeTest::climbed, "back " + image, BAD);
        }
        refused("none was kept", ClimbEdgeTest::climbed, "back 0", STATE);
        refused("none was kept in 0", () -> climbed().with("keep 1;goes 0"), "back 0", STATE);
        refused("none was kept in 1", () -> climbed().with("keep 0;goes 0"), "back 1", STATE);
        refused("a tree was read anew", () -> climbed().with("keep 0;keep 1").tree(FIVE), "back 0", STATE);
        refused("a tree was read anew", () -> climbed().with("keep 0;keep 1").tree(FIVE), "back 1", STATE);
        due("a faulty text leaves the image", () -> climbed().with("keep 0;goes 0").types("x"), "tree", -10,
            "back 0", 15);
    }

    private static void backKeepsNothingElse() {
        Supplier<Caller> kept = () -> climbed().with("keep 0;tune 0 9;afternoon 0 1 5;afternoon 0 0 1;mark 5 0")
            .types("abc");
        due("no tunes", kept, "back 0", 15, "tune 0 3", 9);
        due("no afternoons", kept, "back 0", 15, "count 2", 2, "looked 0", 400);
        due("no trace", kept, "back 0", 15, "trace", 100001);
        due("no text", kept, "back 0", 15, "count 4", 3, "tree", -10);
        due("no image: the other one stays", () -> kept.get().with("goes 0;keep 1"), "back 0", 15, "back 1", 0);
    }

    private static void count() {
        due("nothing at all", "", "count 0", 0, "count 1", 0, "count 2", 0, "count 3", 0, "count 4", 0);
        String branch = "branch 1 0 1 1;";
        due("all there may be", () -> tree(branch.repeat(12) + THREE).times(40, "afternoon 0 0 0").with("sawn -1")
            .types(" ".repeat(400)), "count 0", 12, "count 1", 3, "count 2", 40, "count 3", 12, "count 4", 400);
        due("sawn ones are branches still", () -> tree(FIVE).with("sawn 31"), "count 0", 5, "count 3", 5);
        refused("what -1", ClimbEdgeTest::climbed, "count -1", BAD);
        refused("what 5", ClimbEdgeTest::climbed, "count 5", BAD);
    }

    private static void trace() {
        due("of all calls together", () -> tree(FIVE).with("mark 0 0;mark 1 1;mark 2 2;mark 3 3;mark 4 4;mark 5 0"),
            "trace", 1 + 11 + 101 + 1101 + 10011 + 100001);
        due("400 of the dearest", () -> tree(FIVE).times(400, "mark 5 0"), "trace", 40000400);
        due("a refused call leaves it", () -> tree(FIVE).with("mark 3 0;mark 6 0;mark 0 5;mark 0 -1;mark -1 0"),
            "trace", 1101);
        due("it stays when a tree is read anew", () -> tree(FIVE).with("mark 3 0").tree(THREE), "trace", 1101);
        due("it stays when one goes", () -> tree(FIVE).with("mark 3 0;goes 1"), "trace", 1101);
        due("another object's is its own", () -> {
            tree(FIVE).with("mark 3 0");
            return tree(FIVE);
        }, "trace", 0);
    }
}
