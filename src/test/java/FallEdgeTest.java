import java.util.function.Supplier;

/** Promises 17 to 22, boundary case by boundary case, as the sentences of the document name them. */
public final class FallEdgeTest {
    private static final Check CHECK = new Check("FallEdgeTest");
    private static final int BAD = TreeClimb.BAD, NONE = TreeClimb.NONE;

    public static void main(String[] args) {
        tried();
        triedSound();
        triedRange();
        tries();
        triesRange();
        sway();
        swayRange();
        calm();
        fallWays();
        fallSides();
        fallSawn();
        sawNone();
        sawMany();
        sawLeast();
        sawBounds();
        sawRange();
        anew();
        often();
        CHECK.end();
    }

    private static Caller tree(String text) {
        return new Caller(new TreeClimb()).tree(text);
    }

    private static void due(String told, Supplier<Caller> made, Object... callsAndAnswers) {
        CHECK.test(told, () -> {
            Caller x = made.get();
            for (int i = 0; i < callsAndAnswers.length; i += 2) {
                String call = (String) callsAndAnswers[i];
                CHECK.same(call, x.ask(call), ((Number) callsAndAnswers[i + 1]).longValue());
            }
        });
    }

    private static void due(String told, String text, Object... callsAndAnswers) {
        due(told, () -> tree(text), callsAndAnswers);
    }

    /** A branch of this soundness after n tries by q of ten. */
    private static void tried(String told, int sound, int q, int n, long upper, long lower) {
        String call = "tried 0 " + q + " " + n + " ";
        due(told, "branch 1 0 1 " + sound + ";", call + "0", upper, call + "1", lower);
    }

    private static void tried() {
        tried("no try", 3, 7, 0, 3, 10);
        tried("no try, q 10", 3, 10, 0, 3, 10);
        tried("no try, q 0", 3, 0, 0, 3, 10);
        tried("one try", 5, 5, 1, 2, 3);
        tried("9 tries, q 9", 1, 9, 9, 1000000000, 1000000009);
        tried("9 tries, q 1", 1, 1, 9, 1000000000L, 4486784401L);
        tried("9 tries, q 1, sound 9", 9, 1, 9, 1000000000L, 1043046721L);
        tried("9 tries, q 5", 1, 5, 9, 512, 521);
        tried("q 0 tells nothing", 3, 0, 9, 3, 10);
        tried("q 10 tells all", 1, 10, 1, 1, 1);
        tried("q 10, 9 tries", 9, 10, 9, 1, 1);
        tried("least terms", 4, 0, 0, 2, 5);
    }

    private static void triedSound() {
        tried("sound 0, no try", 0, 5, 0, 0, 1);
        tried("sound 0, 9 tries", 0, 9, 9, 0, 1);
        tried("sound 0, q 0", 0, 0, 9, 0, 1);
        tried("sound 0, q 10, no try: the one is 10", 0, 10, 0, 0, 1);
        tried("both are 0", 0, 10, 1, 0, 1);
        tried("both are 0, 9 tries", 0, 10, 9, 0, 1);
        tried("sound 10", 10, 5, 0, 1, 1);
        tried("sound 10, 9 tries", 10, 1, 9, 1, 1);
        tried("sound 10, q 0, 9 tries", 10, 0, 9, 1, 1);
        tried("sound 10, q 10, 9 tries", 10, 10, 9, 1, 1);
        due("a sawn one is a branch still", () -> tree("branch 1 0 1 5;").with("sawn 1"), "tried 0 5 1 1", 3);
    }

    private static void triedRange() {
        String text = "branch 1 0 1 5;";
        due("q -1", text, "tried 0 -1 1 0", BAD);
        due("q 11", text, "tried 0 11 1 0", BAD);
        due("n -1", text, "tried 0 5 -1 0", BAD);
        due("n 10", text, "tried 0 5 10 0", BAD);
        due("what -1", text, "tried 0 5 1 -1", BAD);
        due("what 2", text, "tried 0 5 1 2", BAD);
        due("branch -1", text, "tried -1 5 1 0", BAD);
        due("branch 1", text, "tried 1 5 1 0", BAD);
        due("no branches", "body 1 1 1;", "tried 0 5 1 0", BAD);
    }

    private static void tries(String told, int sound, int q, int h, int want) {
        due(told, "branch 1 0 1 " + sound + ";", "tries 0 " + q + " " + h, want);
    }

    private static void tries() {
        tries("h 0: no try", 5, 5, 0, 0);
        tries("h 0, sound 0", 0, 10, 0, 0);
        tries("h 0, sound 0, q 0", 0, 0, 0, 0);
        tries("h 1, sound 0", 0, 5, 1, NONE);
        tries("h 1, sound 0, q 10", 0, 10, 1, NONE);
        tries("h as sound", 7, 0, 70, 0);
        tries("h 1 more than sound, q 0", 7, 0, 71, NONE);
        tries("h 1 more than sound, q 10", 7, 10, 71, 1);
        tries("h 100, q 10", 1, 10, 100, 1);
        tries("h 100, q 9", 9, 9, 100, NONE);
        tries("h 100, sound 10", 10, 0, 100, 0);
        tries("h 99, 9 by 10 to the ninth", 1, 9, 99, 3);
        // 4 of 5 after 2 tries
        tries("h hundredths, exactly", 5, 5, 80, 2);
        tries("h hundredths and one more", 5, 5, 81, 3);
        // 1/10 by q 3: 10 to the ninth by that and 9 times 7 to the ninth is 73.3 hundredths; after 8 tries 65.8
        tries("9 tries", 1, 3, 73, 9);
        tries("9 tries, the least h for which 8 are not enough", 1, 3, 66, 9);
        tries("8 tries", 1, 3, 65, 8);
        tries("10 tries are too many", 1, 3, 74, NONE);
    }

    private static void triesRange() {
        String text = "branch 1 0 1 5;";
        due("q -1", text, "tries 0 -1 50", BAD);
        due("q 11", text, "tries 0 11 50", BAD);
        due("h -1", text, "tries 0 5 -1", BAD);
        due("h 101", text, "tries 0 5 101", BAD);
        due("branch -1", text, "tries -1 5 50", BAD);
        due("branch 1", text, "tries 1 5 50", BAD);
    }

    private static void sway() {
        String heavy = "body 9 50 9;";
        due("no wind", "branch 99 0 1 9;body 9 99 9;", "sway 0 0 0", 0);
        due("the push is 0: 9 by 10", "branch 9 0 1 9;body 9 99 9;", "sway 0 0 1", 0);
        // SPEED 1, 1, 0, -1, -1, 0 .., WIDE 1, 2, 2, 1, 0, 0 ..
        due("the push is 1: 10 by 10", "branch 10 0 10 9;" + heavy, "sway 0 0 1", 2);
        due("the push is 1: 19 by 10", "branch 19 0 10 9;" + heavy, "sway 0 0 1", 2);
        // SPEED 2, 2, -1, -3, -1, 2, 3 .., WIDE 2, 4, 3, 0, -1, 1, 4 ..; were -14 by 10 rounded
        // down, it would come to 5
        due("WIDE below 0 is cut toward 0", "branch 20 0 14 9;" + heavy, "sway 0 0 1", 4);
        // SPEED 3, -1, -3 .., WIDE 3, 2, -1 ..; were -1 by 4 rounded down, it would come to 3 alone
        due("SPEED below 0 is cut toward 0", "branch 30 0 25 9;" + heavy, "sway 0 0 1", 4);
        // push 198, thick 1: the greatest there may be
        due("wind 20, 99 high, thick 1, weight 99", "branch 99 0 1 9;body 9 99 9;", "sway 0 0 20", 4851);
        due("the same, weight 1: 2450 by 50", "branch 99 0 1 9;body 9 1 9;", "sway 0 0 20", 49);
        due("weight 24: 48 by 50", "branch 10 0 10 9;body 9 24 9;", "sway 0 0 1", 0);
        due("weight 25: 50 by 50", "branch 10 0 10 9;body 9 25 9;", "sway 0 0 1", 1);
        due("weight 49: 98 by 50", "branch 10 0 10 9;body 9 49 9;", "sway 0 0 1", 1);
        due("weight 99: 198 by 50", "branch 10 0 10 9;body 9 99 9;", "sway 0 0 1", 3);
        due("1 high, wind 9", "branch 1 0 1 9;body 9 99 9;", "sway 0 0 9", 0);
        due("1 high, wind 20", "branch 1 0 30 9;" + heavy, "sway 0 0 20", 2);
        due("a sawn one is a branch still", () -> tree("branch 10 0 10 9;" + heavy).with("sawn 1"), "sway 0 0 1", 2);
    }

    private static void swayRange() {
        String text = "branch 10 0 10 9;body 9 50 9;";
        due("wind -1", text, "sway 0 0 -1", BAD);
        due("wind 21", text, "sway 0 0 21", BAD);
        due("branch -1: the ground is none", text, "sway 0 -1 1", BAD);
        due("branch 1", text, "sway 0 1 1", BAD);
        due("body -1", text, "sway -1 0 1", BAD);
        due("body 1", text, "sway 1 0 1", BAD);
    }

    private static void calm() {
        String high = "branch 99 0 1 9;body 9 99 9;";
        due("l 0: the push is 0 up to wind 9", "branch 1 0 1 9;body 9 99 9;", "calm 0 0 0", 9);
        due("l 0: none but no wind", high, "calm 0 0 0", 0);
        due("l 0: a light body is at rest all the same", "branch 10 0 10 9;body 9 1 9;", "calm 0 0 0", 20);
        due("l as SWAY at wind 20", high, "calm 0 0 4851", 20);
        due("l 1 less than SWAY at wind 20", high, "calm 0 0 4850", 19);
        due("l as SWAY at wind 1", high, "sway 0 0 1", 239, "calm 0 0 239", 1, "calm 0 0 238", 0);
        due("l 9999", high, "calm 0 0 9999", 20);
        due("l -1", high, "calm 0 0 -1", BAD);
        due("l 10000", high, "calm 0 0 10000", BAD);
        due("branch -1: the ground is none", high, "calm 0 -1 9", BAD);
        due("branch 1", high, "calm 0 1 9", BAD);
        due("body -1", high, "calm -1 0 9", BAD);
        due("body 1", high, "calm 1 0 9", BAD);
    }

    private static void fall(String told, Supplier<Caller> made, int b, long harm, long struck) {
        due(told, made, "fall " + b + " 0", harm, "fall " + b + " 1", struck);
    }

    private static void fall(String told, String text, int b, long harm, long struck) {
        fall(told, () -> tree(text), b, harm, struck);
    }

    private static void fallWays() {
        fall("1 high, nothing struck", "branch 1 0 1 0;", 0, 3, 0);
        fall("99 high, nothing struck", "branch 99 0 1 0;", 0, 297, 0);
        fall("hard 1", () -> tree("branch 99 0 1 0;").with("tune 4 1"), 0, 99, 0);
        fall("hard 9", () -> tree("branch 99 0 1 0;").with("tune 4 9"), 0, 891, 0);
        fall("SPEED 1: the blow is 0, then it is 0", "branch 9 0 1 0;branch 8 0 1 0;", 0, 24, 2);
        fall("SPEED 2: the blow is 1, then it is 1", "branch 10 0 1 0;branch 8 0 1 0;", 0, 1 + 27, 2);
        fall("SPEED 3: rounded down both times", "branch 11 0 1 0;branch 8 0 1 0;", 0, 1 + 27, 2);
        fall("SPEED goes on from a half", "branch 20 0 1 0;branch 15 0 1 0;branch 12 0 1 0;", 0, 2 + 2 + 3 * 14, 6);
        fall("as high as where one falls from", "branch 9 0 1 0;branch 9 0 1 0;", 0, 27, 0);
        fall("as high as where one falls from, the other", "branch 9 0 1 0;branch 9 0 1 0;", 1, 27, 0);
        fall("1 lower", "branch 9 0 1 0;branch 8 0 1 0;", 0, 24, 2);
        fall("a higher one is not struck", "branch 9 0 1 0;branch 10 0 1 0;", 0, 27, 0);
        // 5, blow 2, 2; as high: 2, blow 1, 1; 4 by 3
        fall("two as high, one behind the other", "branch 8 0 1 0;branch 3 0 1 0;branch 3 1 1 0;", 0, 2 + 1 + 12, 6);
        fall("the higher first, whatever their order",
            "branch 4 0 1 0;branch 20 0 1 0;branch 12 0 1 0;", 1, 4 + 6 + 30, 5);
        // 11 struck: 12: 1, 0, 0; and so on down to 1: 1 by 3
        StringBuilder all = new StringBuilder();
        for (int b = 0; b < 12; b++) {
            all.append("branch ").append(12 - b).append(" 0 1 0;");
        }
        fall("all 11 that are below", all.toString(), 0, 3, 4094);
        fall("the lowest of 12", all.toString(), 11, 3, 0);
        due("what -1", "branch 9 0 1 0;", "fall 0 -1", BAD);
        due("what 2", "branch 9 0 1 0;", "fall 0 2", BAD);
        due("the ground is no branch", "branch 9 0 1 0;", "fall -1 0", BAD);
        due("one beyond the last", "branch 9 0 1 0;", "fall 1 0", BAD);
    }

    private static void fallSides() {
        for (int a = 0; a < 8; a++) {
            for (int b = 0; b < 8; b++) {
                int apart = Math.min((a - b + 8) % 8, (b - a + 8) % 8);
                String text = "branch 10 " + a + " 1 0;branch 4 " + b + " 1 0;";
                fall("from side " + a + " by side " + b, text, 0, apart <= 1 ? 3 + 21 : 30, apart <= 1 ? 2 : 0);
            }
        }
        fall("near is what is near the first place, not the one struck last",
            "branch 20 0 1 0;branch 15 1 1 0;branch 10 2 1 0;branch 5 7 1 0;", 0, 2 + 6 + 3 * 11, 2 + 8);
    }

    private static void fallSawn() {
        String three = "branch 20 0 1 0;branch 15 0 1 0;branch 10 0 1 0;";
        fall("nothing sawn", three, 0, 2 + 3 + 39, 6);
        fall("the one sawn", () -> tree(three).with("sawn 2"), 0, 5 + 45, 4);
        fall("the other sawn", () -> tree(three).with("sawn 4"), 0, 2 + 51, 2);
        fall("both sawn", () -> tree(three).with("sawn 6"), 0, 60, 0);
        fall("all sawn: a fall from a sawn one", () -> tree(three).with("sawn 7"), 0, 60, 0);
        fall("sawn no more", () -> tree(three).with("sawn 7;sawn 0"), 0, 2 + 3 + 39, 6);
    }

    private static void saw(String told, Supplier<Caller> made, int m, int h, long set, long many) {
        String call = "saw 0 " + m + " " + h + " ";
        due(told, made, call + "0", set, call + "1", many, "sawn 0", made.get().ask("sawn 0"));
    }

    private static void saw(String told, String text, int m, int h, long set, long many) {
        saw(told, () -> tree(text), m, h, set, many);
    }

    private static void none(String told, Supplier<Caller> made, int m, int h) {
        saw(told, made, m, h, NONE, NONE);
    }

    private static void sawNone() {
        String one = "branch 9 0 9 9;body 9 9 9;";
        saw("HARM as m, HIGH as h", one, 27, 9, 0, 0);
        saw("HARM 1 more than m", one, 26, 0, 1, 1);
        none("HARM 1 more than m, h 1", () -> tree(one), 26, 1);
        none("HIGH 1 less than h", () -> tree(one), 27, 10);
        saw("no branches", "body 9 9 9;", 0, 0, 0, 0);
        none("no branches, h 1", () -> tree("body 9 9 9;"), 0, 1);
        saw("no branch that there is a way to", "branch 10 0 9 9;body 9 9 9;", 0, 0, 0, 0);
        saw("a way of odds 0 is none", "branch 9 0 1 0;body 9 3 9;", 0, 0, 0, 0);
        saw("a way of odds 1 by 10 is one", "branch 9 0 1 1;body 9 3 9;", 0, 0, 1, 1);
        saw("beyond one of odds 0", "branch 9 0 1 0;branch 18 0 1 9;body 9 3 9;", 0, 0, 0, 0);
        saw("m 0, h 0", one, 0, 0, 1, 1);
        saw("m 9999", one, 9999, 9, 0, 0);
        none("h 99", () -> tree(one), 9999, 99);
        saw("99 high, h 99, hard 9",
            () -> tree("branch 30 4 9 9;branch 60 4 9 9;branch 90 4 9 9;branch 99 4 9 9;body 30 9 9;")
            .with("tune 4 9"), 9999, 99, 0, 0);
    }

    /** So many branches 9 high, apart from each other; without them nobody falls. */
    private static String apart(int many) {
        StringBuilder s = new StringBuilder();
        for (int b = 0; b < many; b++) {
            s.append("branch 9 ").append(2 * b % 8).append(" 9 9;");
        }
        return s + "body 9 9 9;";
    }

    private static void sawMany() {
        saw("1", apart(1), 26, 0, 1, 1);
        saw("2", apart(2), 26, 0, 3, 2);
        saw("3, the most", apart(3), 26, 0, 7, 3);
        none("4 are too many", () -> tree(apart(4)), 26, 0);
        saw("4, of which 1 is sawn", () -> tree(apart(4)).with("sawn 2"), 26, 0, 13, 3);
        saw("6, of which 3 are sawn", () -> tree(apart(6)).with("sawn 42"), 26, 0, 21, 3);
        none("6, of which 2 are sawn", () -> tree(apart(6)).with("sawn 34"), 26, 0);
        saw("12, all sawn", () -> tree(apart(12)).with("sawn -1"), 0, 0, 0, 0);
        saw("12, the last three left", () -> tree(apart(12)).with("sawn 511"), 0, 0, 3584, 3);
        none("12, the last four left", () -> tree(apart(12)).with("sawn 255"), 0, 0);
        saw("12, none to saw", apart(12), 27, 9, 0, 0);
    }

    private static void sawLeast() {
        // 30 high (a fall by 90) is come to from 20 alone (60), and 20 from 10 alone (30): to saw off any ends it
        String up = "branch 10 0 9 9;branch 20 2 9 9;branch 30 4 9 9;body 10 9 9;";
        saw("of three the least set", up, 60, 0, 1, 1);
        saw("of two that leave 10 the least set", up, 60, 10, 2, 1);
        saw("the one that leaves 20", up, 60, 20, 4, 1);
        none("none leaves 21", () -> tree(up), 60, 21);
        saw("of two that end 20 the least set", up, 59, 0, 1, 1);
        String down = "branch 30 4 9 9;branch 20 2 9 9;branch 10 0 9 9;body 10 9 9;";
        saw("of three the least set, the other way round", down, 60, 0, 1, 1);
        saw("of two the least set, the other way round", down, 59, 0, 2, 1);
        saw("the one that leaves 10, the other way round", down, 59, 10, 2, 1);
        saw("the one that ends 10, the other way round", down, 29, 0, 4, 1);
        saw("fewer ahead of a lesser set",
            "branch 9 0 9 9;branch 9 2 9 9;branch 8 4 9 9;branch 17 3 9 9;body 9 9 9;", 27, 9, 8, 1);
    }

    private static void sawBounds() {
        // 20 high falls by 60, or by 5 + 45 if it strikes 10; sawing that off makes it worse
        String two = "branch 20 0 9 9;branch 10 0 9 9;body 20 9 9;";
        saw("HARM is 50", two, 50, 20, 0, 0);
        none("HARM 50, m 49", () -> tree(two), 49, 20);
        saw("HARM 50, m 49, h 10", two, 49, 10, 1, 1);
        saw("a sawn one is not struck", () -> tree(two).with("sawn 2"), 60, 20, 0, 0);
        none("a sawn one is not struck, m 59", () -> tree(two).with("sawn 2"), 59, 20);
        saw("hard counts", () -> tree(two).with("tune 4 1"), 20, 20, 0, 0);
        none("hard counts, m 19", () -> tree(two).with("tune 4 1"), 19, 20);
        saw("back counts", () -> tree("branch 10 0 9 9;body 9 9 9;").with("tune 5 1"), 29, 0, 1, 1);
        saw("without back", "branch 10 0 9 9;body 9 9 9;", 29, 0, 0, 0);
    }

    private static void sawRange() {
        String text = "branch 9 0 9 9;body 9 9 9;";
        due("m -1", text, "saw 0 -1 0 0", BAD);
        due("m 10000", text, "saw 0 10000 0 0", BAD);
        due("h -1", text, "saw 0 9 -1 0", BAD);
        due("h 100", text, "saw 0 9 100 0", BAD);
        due("what -1", text, "saw 0 9 0 -1", BAD);
        due("what 2", text, "saw 0 9 0 2", BAD);
        due("body -1", text, "saw -1 9 0 0", BAD);
        due("body 1", text, "saw 1 9 0 0", BAD);
        due("no bodies", "branch 9 0 9 9;", "saw 0 9 0 0", BAD);
    }

    /** Nothing of a greater tree is left in a lesser one. */
    private static void anew() {
        StringBuilder twelve = new StringBuilder();
        for (int b = 0; b < 12; b++) {
            twelve.append("branch ").append(30 - b).append(" 0 9 5;");
        }
        String two = "branch 9 0 9 9;branch 5 0 9 9;body 9 9 9;";
        Supplier<Caller> made = () -> tree(twelve + "body 30 9 9;body 30 9 9;").with("fall 0 0;high 1 0").tree(two);
        fall("a tree read anew is fallen from by its own branches", made, 0, 2 + 21, 2);
        fall("its last branch", made, 1, 15, 0);
        saw("a tree read anew is sawn by its own branches", made, 22, 5, 1, 1);
        due("what was in the greater one is not", made, "fall 2 0", BAD, "sway 0 2 1", BAD, "tried 2 1 1 0", BAD,
            "high 0 0", 9, "high 1 0", BAD, "rubbed 0 0 0", 2, "stuck 0 0", 0);
    }

    /** The same call answers the same, as often as the document allows it. */
    private static void often() {
        String full = "branch 9 0 9 9;branch 9 2 9 9;branch 9 4 9 9;".repeat(4) + "body 9 9 9;";
        String[] calls = {"saw 0 0 0 0", "best 0 -1 11 0", "rubbed 0 11 4095", "stuck 0 11", "calm 0 11 9999",
            "help 0 20", "sure 0 50", "high 0 1", "fall 0 0", "tries 0 1 99", "tried 0 1 9 1", "step 0 0 1", "holds 0 0"};
        for (String call : calls) {
            CHECK.test("400 times the same", () -> {
                Caller x = tree(full);
                long first = x.ask(call);
                for (int i = 1; i < 400; i++) {
                    CHECK.same(call, x.ask(call), first);
                }
            });
        }
        due("bodies in turn", "branch 9 0 9 9;branch 18 0 9 9;body 9 9 9;body 8 9 9;", "high 0 0", 18, "high 1 0", 0,
            "best 0 -1 1 2", 2, "best 1 -1 1 2", NONE, "best 0 -1 1 2", 2, "rubbed 1 1 0", 0, "rubbed 0 1 0", 1);
    }
}
