/** Promises 1 to 4: a new object, type, clear, tree. */
public final class TextTest {
    private static final Check CHECK = new Check("TextTest");
    private static final String BRANCH = "branch 1 0 1 1;";
    private static final String BODY = "body 1 1 1;";

    public static void main(String[] args) {
        promise1();
        promise2();
        promise3();
        promise4Good();
        promise4Faults();
        promise4Anew();
        CHECK.end();
    }

    private static void promise1() {
        TreeClimb x = new TreeClimb();
        for (int what = 0; what < 5; what++) {
            CHECK.same("new count", x.count(what), 0);
        }
        CHECK.row("new now", new long[] {x.now(0), x.now(1), x.now(2), x.now(3), x.now(4), x.now(5)}, 0, -1, 0, 0, 0, 0);
        long[] tunes = {x.tune(0, 1), x.tune(1, 1), x.tune(2, 1), x.tune(3, 1), x.tune(4, 1), x.tune(5, 1)};
        CHECK.row("new tune", tunes, 3, 2, 2, 4, 3, 0);
        CHECK.same("new lot", x.lot(7), 1);
        CHECK.same("new trace", x.trace(), 0);
        CHECK.same("new sawn", x.sawn(-1), 0);
        CHECK.same("sawn of no branches", x.sawn(0), 0);
        CHECK.same("new back(0)", x.back(0), TreeClimb.STATE);
        CHECK.same("new back(1)", x.back(1), TreeClimb.STATE);
        CHECK.same("new branch", x.branch(0, 0), TreeClimb.BAD);
        CHECK.same("new body", x.body(0, 0), TreeClimb.BAD);
        CHECK.same("new climb", x.climb(-1), TreeClimb.NO);
    }

    private static void promise2() {
        TreeClimb x = new TreeClimb();
        CHECK.same("n 0", x.type(1, 0), TreeClimb.BAD);
        CHECK.same("n 9", x.type(1, 9), TreeClimb.BAD);
        CHECK.same("n -1", x.type(1, -1), TreeClimb.BAD);
        CHECK.same("n least", x.type(1, Integer.MIN_VALUE), TreeClimb.BAD);
        CHECK.same("n greatest", x.type(1, Integer.MAX_VALUE), TreeClimb.BAD);
        CHECK.same("nothing came", x.count(4), 0);
        // "bod" from the lowest three bytes of a full long, then "y 1 1 1;" as eight
        CHECK.same("three bytes", x.type(0x4142434445626f64L, 3), 3);
        CHECK.same("eight bytes", x.type(0x792031203120313bL, 8), 11);
        CHECK.same("read", x.tree(), 1);
        for (int n = 1; n <= 8; n++) {
            x.clear();
            CHECK.same("n bytes", x.type(-1, n), n);
        }
        x.clear();
        for (int i = 0; i < 49; i++) {
            x.type(0, 8);
        }
        CHECK.same("399", x.type(0, 7), 399);
        CHECK.same("401", x.type(0, 2), TreeClimb.FULL);
        CHECK.same("unchanged", x.count(4), 399);
        CHECK.same("400", x.type(0, 1), 400);
        CHECK.same("full", x.type(0, 1), TreeClimb.FULL);
        CHECK.same("BAD ahead of FULL", x.type(0, 9), TreeClimb.BAD);
        CHECK.same("still", x.count(4), 400);
        CHECK.same("first byte", x.tree(), -10);
    }

    private static void promise3() {
        TreeClimb x = new TreeClimb();
        CHECK.same("empty", x.clear(), 0);
        Check.write(x, "wet wet wet");
        CHECK.same("eleven", x.clear(), 11);
        CHECK.same("then none", x.clear(), 0);
        Check.write(x, BODY);
        CHECK.same("only what came behind", x.tree(), 1);
        for (int i = 0; i < 50; i++) {
            x.type(0, 8);
        }
        CHECK.same("full", x.clear(), 400);
        CHECK.same("room again", x.type(0, 8), 8);
    }

    private static void promise4Good() {
        good("", 0);
        good("     ", 0);
        good(BODY, 1);
        good("   branch   99  7 30   10  wet   nest  ;  body 30 99 9   ;   ", 2);
        good("branch1 0 1 0wet nest;branch1 0 1 0;body1 1 0;", 3);
        good("branch 1 0 1 0 nest;body 1 1 0;branch 1 0 1 0 wet;", 3);
        good(BRANCH.repeat(12) + BODY.repeat(3), 15);
        good(BODY.repeat(3) + BRANCH.repeat(12), 15);
        TreeClimb x = new TreeClimb();
        Check.write(x, BODY + " ".repeat(389));
        CHECK.same("400 bytes", x.count(4), 400);
        CHECK.same("400 bytes read", x.tree(), 1);
        CHECK.same("text is empty", x.count(4), 0);
    }

    private static void good(String text, int items) {
        TreeClimb x = new TreeClimb();
        Check.write(x, text);
        CHECK.same("tree of '" + text + "'", x.tree(), items);
        CHECK.same("items of '" + text + "'", x.count(0) + x.count(1), items);
        CHECK.same("text behind '" + text + "'", x.count(4), 0);
    }

    private static void promise4Faults() {
        // numbers out of what they may be, at each place
        fault("branch 0 0 1 1;", 7);
        fault("branch 100 0 1 1;", 7);
        fault("branch 1 8 1 1;", 9);
        fault("branch 1 0 0 1;", 11);
        fault("branch 1 0 31 1;", 11);
        fault("branch 1 0 1 11;", 13);
        fault("body 0 1 1;", 5);
        fault("body 31 1 1;", 5);
        fault("body 1 0 1;", 7);
        fault("body 1 100 1;", 7);
        fault("body 1 1 10;", 9);
        // numbers that are none
        fault("branch 01 0 1 1;", 7);
        fault("branch 1 00 1 1;", 9);
        fault("branch 1 0 1 " + "9".repeat(300) + ";", 13);
        fault("branch 1 0 1 4294967297;", 13);
        fault("branch 1 0 1 18446744073709551617;", 13);
        fault("branch -1 0 1 1;", 7);
        // words
        fault("branches 1 0 1 1;", 0);
        fault("branc 1 0 1 1;", 0);
        fault("Branch 1 0 1 1;", 0);
        fault("xody 1 1 1;", 0);
        fault("boda 1 1 1;", 0);
        fault("bodyz 1 1 1;", 0);
        fault("abody 1 1 1;", 0);
        fault("  bodybody 1 1 1;", 2);
        fault("wet;", 0);
        fault("nest;", 0);
        fault(";", 0);
        fault("1;", 0);
        fault(BODY + ";", 11);
        fault(BODY + "x", 11);
        fault("branch 1 0 1 1 nest wet;", 20);
        fault("branch 1 0 1 1 wet wet;", 19);
        fault("branch 1 0 1 1 nest nest;", 20);
        fault("branch 1 0 1 1 wetnest;", 15);
        fault("branch 1 0 1 1 wets;", 15);
        fault("branch 1 0 1 1 1;", 15);
        fault("branch 1 0 1;", 12);
        fault("branch 1 0 1 1 body 1 1 1;", 15);
        fault("body 1 1 1 wet;", 11);
        fault("body 1 1 1 1;", 11);
        fault("body body 1 1 1;", 5);
        fault("branch wet 1 0 1 1;", 7);
        // bytes that begin nothing
        fault("\u00c8", 0);
        fault("\0", 0);
        fault(" \tbody 1 1 1;", 1);
        fault("body 1 1 1;\n", 11);
        fault("body 1,1 1;", 6);
        fault("body 1 1 1;{", 11);
        fault("body 1 1 1;`", 11);
        fault("body /1 1 1;", 5);
        fault("body 1: 1 1;", 6);
        // ends too early
        fault("branch", 6);
        fault("branch  ", 8);
        fault("branch 1 0 1 1", 14);
        fault("branch 1 0 1 1 wet", 18);
        fault("branch 1 0 1 1 wet nest ", 24);
        fault("body 1 1 1", 10);
        fault("body 1 1", 8);
        fault(BODY + "bo", 11);
        // too many
        fault(BODY.repeat(4), 33);
        fault(BRANCH.repeat(13), 180);
        fault(BRANCH.repeat(12) + " branch", 181);
        fault(BODY.repeat(3) + "body", 33);
        // the first of two
        fault("branch 100 9 99 99;;;", 7);
        fault("body 1 1 1;wet;x", 11);
    }

    private static void fault(String text, int place) {
        TreeClimb x = Check.grown("branch 5 1 9 4 wet;body 9 9 3;");
        x.goes(0);
        x.climb(0);
        x.afternoon(0, 1, 1);
        x.keep(1);
        x.sawn(1);
        Check.write(x, text);
        String ahead = Check.stateOf(x);
        CHECK.same("tree of '" + text + "'", x.tree(), -10 - place);
        CHECK.that("nothing changed by '" + text + "'", ahead.equals(Check.stateOf(x)));
        CHECK.that("the image stays", x.back(1) >= 0);
        CHECK.same("the text stays", x.clear(), text.length());
        Check.write(x, "branch 1 1 1 1;body 2 2 2;");
        CHECK.same("nothing of the fault is left", x.tree(), 2);
        CHECK.same("one branch", x.count(0), 1);
        CHECK.same("one body", x.count(1), 1);
    }

    private static void promise4Anew() {
        TreeClimb x = Check.grown("branch 5 0 30 10;branch 9 0 1 0;body 9 9 3;body 9 9 3;");
        x.goes(1);
        x.climb(0);
        x.climb(1);
        x.mark(0, 0);
        x.tune(0, 9);
        x.tune(5, 7);
        x.afternoon(1, 0, 1);
        x.keep(0);
        x.keep(1);
        x.sawn(2);
        int lot = x.lot(0);
        x.lot(lot);
        Check.write(x, "body 2 3 4;");
        CHECK.same("read anew", x.tree(), 1);
        CHECK.row("anew count", new long[] {x.count(0), x.count(1), x.count(2), x.count(3), x.count(4)}, 0, 1, 0, 0, 0);
        CHECK.row("anew now", new long[] {x.now(0), x.now(1), x.now(2), x.now(3), x.now(4), x.now(5)}, 0, -1, 0, 0, 0, 0);
        CHECK.same("image 0 is gone", x.back(0), TreeClimb.STATE);
        CHECK.same("image 1 is gone", x.back(1), TreeClimb.STATE);
        CHECK.same("lot stays", x.lot(0), lot);
        CHECK.same("trace stays", x.trace(), 1);
        CHECK.same("tunes stay", x.tune(0, 1), 9);
        CHECK.same("tunes stay", x.tune(5, 1), 7);
        CHECK.same("old branches are gone", x.branch(0, 0), TreeClimb.BAD);
        CHECK.same("nothing is sawn", x.sawn(0), 0);
        Check.write(x, "branch 1 0 1 1;body 1 1 1;");
        x.tree();
        CHECK.same("no afternoons", x.dares(0, 0, 0, 0), 0);
        CHECK.same("a tree of nothing", x.tree(), 0);
        CHECK.same("no branches", x.count(0), 0);
        CHECK.same("no bodies", x.count(1), 0);
    }
}
