import java.util.function.Supplier;

/** Promises 5 to 16, boundary case by boundary case, as the sentences of the document name them. */
public final class WayEdgeTest {
    private static final Check CHECK = new Check("WayEdgeTest");
    private static final int BAD = TreeClimb.BAD, NONE = TreeClimb.NONE;
    /** Of places a call away from each other, each of them held by ten. */
    private static final String BODY = "body 10 20 9;";

    public static void main(String[] args) {
        features();
        sawn();
        tunes();
        stepUp();
        stepDown();
        stepLevel();
        stepSides();
        stepWeight();
        stepGroundAndSawn();
        holds();
        holdsWet();
        best();
        bestSteps();
        bestSawn();
        high();
        too();
        sure();
        help();
        stuck();
        rubbed();
        rubbedSets();
        CHECK.end();
    }

    private static Caller tree(String text) {
        return new Caller(new TreeClimb()).tree(text);
    }

    private static void due(String told, Supplier<Caller> made, Object... callsAndAnswers) {
        CHECK.test(told, () -> {
            Caller x = made.get();
            for (int i = 0; i < callsAndAnswers.length; i += 2) {
                String call = (String) callsAndAnswers[i];
                CHECK.same(call, x.ask(call), ((Number) callsAndAnswers[i + 1]).longValue());
            }
        });
    }

    private static void due(String told, String text, Object... callsAndAnswers) {
        due(told, () -> tree(text), callsAndAnswers);
    }

    private static String branches(int many) {
        StringBuilder s = new StringBuilder();
        for (int b = 0; b < many; b++) {
            s.append("branch ").append(b + 1).append(" 0 9 9;");
        }
        return s.toString();
    }

    private static void features() {
        due("neither wet nor nest", "branch 1 0 1 1;", "branch 0 4", 0, "branch 0 5", 0);
        due("wet", "branch 1 0 1 1 wet;", "branch 0 4", 1, "branch 0 5", 0);
        due("nest", "branch 1 0 1 1 nest;", "branch 0 4", 0, "branch 0 5", 1);
        due("wet and nest", "branch 1 0 1 1 wet nest;", "branch 0 4", 1, "branch 0 5", 1);
        due("of the branch that is told so", "branch 1 0 1 1;branch 1 0 1 1 wet;branch 1 0 1 1 nest;branch 1 0 1 1;",
            "branch 0 4", 0, "branch 1 4", 1, "branch 2 4", 0, "branch 0 5", 0, "branch 1 5", 0, "branch 2 5", 1,
            "branch 3 5", 0);
        due("each of its own", "branch 12 3 4 5 wet nest;body 6 7 8;", "branch 0 0", 12, "branch 0 1", 3,
            "branch 0 2", 4, "branch 0 3", 5, "branch 0 4", 1, "branch 0 5", 1, "branch 0 6", 0, "body 0 0", 6,
            "body 0 1", 7, "body 0 2", 8);
        due("what 7", "branch 1 0 1 1;", "branch 0 7", BAD, "branch 0 -1", BAD);
        due("what 3 of a body", "body 1 1 1;", "body 0 3", BAD, "body 0 -1", BAD);
        due("one beyond the last branch, the last body", "branch 1 0 1 1;body 1 1 1;", "branch 1 0", BAD,
            "body 1 0", BAD);
        due("one ahead of the first branch, the first body", "branch 1 0 1 1;body 1 1 1;", "branch -1 0", BAD,
            "body -1 0", BAD);
    }

    private static void sawn() {
        due("of no branches all bits are left out", "body 1 1 1;", "sawn -1", 0, "sawn 0", 0, "count 3", 0);
        due("of 12 branches 12 bits stay", branches(12), "sawn -1", 0, "count 3", 12, "sawn 0", 4095, "count 3", 0);
        due("the last branch", branches(12), "sawn 2048", 0, "branch 11 6", 1, "branch 10 6", 0, "sawn 0", 2048);
        due("one beyond the last branch", branches(12), "sawn 4096", 0, "count 3", 0, "sawn 0", 0);
        due("one beyond the last of three", branches(3), "sawn 8", 0, "sawn 4", 0, "sawn 0", 4);
        due("the first branch", branches(12), "sawn 1", 0, "branch 0 6", 1, "branch 1 6", 0, "sawn 0", 1);
        due("the sign's bit", branches(12), "sawn -2147483648", 0, "sawn -2147483647", 0, "sawn 0", 1);
        due("the greatest number", branches(12), "sawn 2147483647", 0, "sawn 0", 4095);
        due("a set takes the place of the other", branches(3), "sawn 3", 0, "sawn 6", 3, "sawn 0", 6);
        due("none", branches(3), "sawn 0", 0, "sawn 0", 0);
        for (int b = 0; b < 12; b++) {
            due("each bit is its branch", branches(12), "sawn " + (1 << b), 0, "branch " + b + " 6", 1, "count 3", 1);
        }
        due("a branch of a tree read anew is not", () -> tree(branches(2)).with("sawn 3").tree(branches(2)),
            "branch 0 6", 0, "branch 1 6", 0, "count 3", 0);
    }

    private static void tunes() {
        int[] first = {3, 2, 2, 4, 3, 0};
        int[] least = {1, 0, 0, 0, 1, 0};
        int[] most = {9, 4, 9, 10, 9, 20};
        for (int what = 0; what < 6; what++) {
            String tune = "tune " + what + " ";
            due("the least", "", tune + least[what], first[what], tune + least[what], least[what]);
            due("the greatest", "", tune + most[what], first[what], tune + most[what], most[what]);
            due("one less than the least", "", tune + (least[what] - 1), BAD, tune + least[what], first[what]);
            due("one more than the greatest", "", tune + (most[what] + 1), BAD, tune + most[what], first[what]);
            for (int other = 0; other < 6; other++) {
                if (other != what) {
                    due("the others stay", "", tune + most[what], first[what], "tune " + other + " 1", first[other]);
                }
            }
        }
        due("no tune 6", "", "tune 6 1", BAD);
        due("no tune -1", "", "tune -1 1", BAD);
    }

    private static void stepUp() {
        due("up by reach", "branch 5 0 30 9;branch 15 0 30 9;" + BODY, "step 0 0 1", 1);
        due("up by one more than reach", "branch 5 0 30 9;branch 16 0 30 9;" + BODY, "step 0 0 1", 0);
        due("up by 1, reach 1", "branch 5 0 30 9;branch 6 0 30 9;body 1 1 1;", "step 0 0 1", 1);
        due("up by 2, reach 1", "branch 5 0 30 9;branch 7 0 30 9;body 1 1 1;", "step 0 0 1", 0);
        due("up by 30, reach 30", "branch 69 0 30 9;branch 99 0 30 9;body 30 1 1;", "step 0 0 1", 1);
        due("up by 31, reach 30", "branch 68 0 30 9;branch 99 0 30 9;body 30 1 1;", "step 0 0 1", 0);
        due("from the ground by reach", "branch 10 0 30 9;" + BODY, "step 0 -1 0", 1);
        due("from the ground by one more", "branch 11 0 30 9;" + BODY, "step 0 -1 0", 0);
        due("from the ground with back by one more", () -> tree("branch 11 0 30 9;" + BODY).with("tune 5 1"),
            "step 0 -1 0", 1);
        due("from the ground with back by two more", () -> tree("branch 12 0 30 9;" + BODY).with("tune 5 1"),
            "step 0 -1 0", 0);
        due("back 20, by it", () -> tree("branch 50 0 30 9;body 30 9 9;").with("tune 5 20"), "step 0 -1 0", 1);
        due("back 20, by one more", () -> tree("branch 51 0 30 9;body 30 9 9;").with("tune 5 20"), "step 0 -1 0", 0);
        due("no back from a branch", () -> tree("branch 1 0 30 9;branch 12 0 30 9;" + BODY).with("tune 5 20"),
            "step 0 0 1", 0);
        due("up by 1, reach 1, blind 9", () -> tree("branch 1 0 30 9;branch 2 0 30 9;body 1 1 1;").with("tune 2 9"),
            "step 0 0 1", 1, "step 0 -1 0", 1);
        due("blind does not matter upward", () -> tree("branch 1 0 30 9;branch 11 0 30 9;" + BODY).with("tune 2 9"),
            "step 0 0 1", 1);
    }

    private static void stepDown() {
        due("down by reach less blind", "branch 5 0 30 9;branch 13 0 30 9;" + BODY, "step 0 1 0", 1);
        due("down by one more", "branch 5 0 30 9;branch 14 0 30 9;" + BODY, "step 0 1 0", 0);
        due("down by reach, blind 0", () -> tree("branch 5 0 30 9;branch 15 0 30 9;" + BODY).with("tune 2 0"),
            "step 0 1 0", 1);
        due("down by one more, blind 0", () -> tree("branch 5 0 30 9;branch 16 0 30 9;" + BODY).with("tune 2 0"),
            "step 0 1 0", 0);
        due("down by 1, blind 9", () -> tree("branch 5 0 30 9;branch 6 0 30 9;" + BODY).with("tune 2 9"),
            "step 0 1 0", 1);
        due("down by 2, blind 9", () -> tree("branch 5 0 30 9;branch 7 0 30 9;" + BODY).with("tune 2 9"),
            "step 0 1 0", 0);
        due("reach as much as blind", () -> tree("branch 5 0 30 9;branch 6 0 30 9;body 9 9 9;").with("tune 2 9"),
            "step 0 1 0", 0);
        due("reach less than blind", () -> tree("branch 5 0 30 9;branch 6 0 30 9;body 8 9 9;").with("tune 2 9"),
            "step 0 1 0", 0);
        due("reach less than blind, to the ground", () -> tree("branch 1 0 30 9;body 1 9 9;").with("tune 2 9"),
            "step 0 0 -1", 0);
        due("to the ground by reach less blind", "branch 8 0 30 9;" + BODY, "step 0 0 -1", 1);
        due("to the ground by one more", "branch 9 0 30 9;" + BODY, "step 0 0 -1", 0);
        due("no back downward", () -> tree("branch 9 0 30 9;" + BODY).with("tune 5 20"), "step 0 0 -1", 0);
        due("to the ground by 30", () -> tree("branch 30 0 30 9;body 30 9 9;").with("tune 2 0"), "step 0 0 -1", 1);
        due("to the ground by 31", () -> tree("branch 31 0 30 9;body 30 9 9;").with("tune 2 0"), "step 0 0 -1", 0);
    }

    private static void stepLevel() {
        String two = "branch 50 1 30 9;branch 50 3 30 9;body 1 1 1;";
        due("as high, by turn", two, "step 0 0 1", 1, "step 0 1 0", 1);
        due("as high, by one more than turn", () -> tree(two).with("tune 1 1"), "step 0 0 1", 0, "step 0 1 0", 0);
        due("as high, blind more than reach", () -> tree(two).with("tune 2 9"), "step 0 0 1", 1);
        due("as high, one side, turn 0", () -> tree("branch 50 1 30 9;branch 50 1 30 9;body 1 1 1;")
            .with("tune 1 0"), "step 0 0 1", 1);
    }

    private static void stepSides() {
        for (int a = 0; a < 8; a++) {
            for (int b = 0; b < 8; b++) {
                String text = "branch 50 " + a + " 30 9;branch 51 " + b + " 30 9;" + BODY;
                int apart = Math.min((a - b + 8) % 8, (b - a + 8) % 8);
                for (int turn = 0; turn <= 4; turn++) {
                    String tuned = "tune 1 " + turn;
                    int may = apart <= turn ? 1 : 0;
                    due("sides " + a + ", " + b + ", turn " + turn, () -> tree(text).with(tuned), "step 0 0 1", may,
                        "step 0 1 0", may);
                }
            }
            String text = "branch 5 " + a + " 30 9;" + BODY;
            due("the ground lies on side " + a, () -> tree(text).with("tune 1 0"), "step 0 -1 0", 1, "step 0 0 -1", 1);
        }
        due("sides 7 and 0 are 1 apart", () -> tree("branch 5 7 30 9;branch 6 0 30 9;" + BODY).with("tune 1 1"),
            "step 0 0 1", 1);
        due("sides 0 and 4 are 4 apart, the most", () -> tree("branch 5 0 30 9;branch 6 4 30 9;" + BODY)
            .with("tune 1 3"), "step 0 0 1", 0, "tune 1 4", 3, "step 0 0 1", 1);
    }

    private static void stepWeight() {
        for (int bear = 1; bear <= 9; bear++) {
            String tuned = "tune 0 " + bear;
            String thick = "branch 5 0 11 9;body 9 ";
            int most = 11 * bear;
            due("weight is thick times bear " + bear, () -> tree(thick + most + " 9;").with(tuned), "step 0 -1 0", 1);
            if (most < 99) {
                due("weight is 1 more", () -> tree(thick + (most + 1) + " 9;").with(tuned), "step 0 -1 0", 0);
            }
        }
        due("from branch to branch, weight as borne", "branch 5 0 30 9;branch 6 0 3 9;body 9 9 9;", "step 0 0 1", 1);
        due("from branch to branch, weight 1 more", "branch 5 0 30 9;branch 6 0 3 9;body 9 10 9;", "step 0 0 1", 0,
            "step 0 1 0", 1);
        due("onto the ground with any weight", () -> tree("branch 5 0 1 9;body 9 99 9;").with("tune 0 1"),
            "step 0 0 -1", 1, "step 0 -1 0", 0);
        due("down onto a thin one", "branch 5 0 1 9;branch 6 0 30 9;body 9 4 9;", "step 0 1 0", 0);
    }

    private static void stepGroundAndSawn() {
        String three = "branch 5 0 30 9;branch 6 0 30 9;branch 7 0 30 9;" + BODY;
        due("one and the same branch", three, "step 0 1 1", BAD, "step 0 0 0", BAD, "step 0 2 2", BAD);
        due("one and the same ground", three, "step 0 -1 -1", BAD);
        due("the last place", three, "step 0 -1 2", 1, "step 0 2 -1", 1);
        due("one beyond the last place", three, "step 0 -1 3", BAD, "step 0 3 -1", BAD);
        due("one ahead of the ground", three, "step 0 -2 0", BAD, "step 0 0 -2", BAD);
        due("onto a sawn one", () -> tree(three).with("sawn 2"), "step 0 0 1", 0, "step 0 2 1", 0, "step 0 -1 1", 0);
        due("from a sawn one", () -> tree(three).with("sawn 2"), "step 0 1 0", 0, "step 0 1 2", 0, "step 0 1 -1", 0);
        due("by a sawn one", () -> tree(three).with("sawn 2"), "step 0 0 2", 1, "step 0 2 0", 1);
        due("one and the same sawn one", () -> tree(three).with("sawn 2"), "step 0 1 1", BAD);
        due("of another body", three, "step 1 0 1", BAD, "step -1 0 1", BAD);
    }

    private static void holds() {
        due("weight as thick", "branch 5 0 9 0;body 9 9 9;", "holds 0 0", 10);
        due("weight 1 above thick", "branch 5 0 9 0;body 9 10 9;", "holds 0 0", 0);
        due("weight 1 below thick", "branch 5 0 9 0;body 9 8 9;", "holds 0 0", 10);
        for (int sound = 0; sound <= 10; sound++) {
            due("heavier, sound " + sound, "branch 5 0 9 " + sound + ";body 9 99 9;", "holds 0 0", sound);
            due("lighter, sound " + sound, "branch 5 0 9 " + sound + ";body 9 1 9;", "holds 0 0", 10);
        }
        due("bear does not matter", () -> tree("branch 5 0 9 4;body 9 99 9;").with("tune 0 1"), "holds 0 0", 4);
        due("a sawn one is a branch still", () -> tree("branch 5 0 9 4;body 9 99 9;").with("sawn 1"), "holds 0 0", 4);
        due("the ground is no branch", "branch 5 0 9 4;body 9 99 9;", "holds 0 -1", BAD, "holds 0 1", BAD);
    }

    private static void holdsWet() {
        for (int slip = 0; slip <= 10; slip++) {
            for (int grip = 0; grip <= 9; grip++) {
                String tuned = "tune 3 " + slip;
                String body = "body 9 9 " + grip + ";";
                int less = slip > grip ? slip - grip : 0;
                due("wet, slip " + slip + ", grip " + grip, () -> tree("branch 5 0 9 0 wet;" + body).with(tuned),
                    "holds 0 0", 10 - less);
                due("dry, slip " + slip + ", grip " + grip, () -> tree("branch 5 0 9 0;" + body).with(tuned),
                    "holds 0 0", 10);
            }
        }
        due("not sound and wet: 1", () -> tree("branch 5 0 1 5 wet;body 9 9 0;"), "holds 0 0", 1);
        due("not sound and wet: 0", () -> tree("branch 5 0 1 4 wet;body 9 9 0;"), "holds 0 0", 0);
        due("not sound and wet: 0 at least", () -> tree("branch 5 0 1 3 wet;body 9 9 0;"), "holds 0 0", 0);
        due("slip 10, grip 0, sound 0", () -> tree("branch 5 0 1 0 wet;body 9 9 0;").with("tune 3 10"), "holds 0 0", 0);
        due("grip above slip adds nothing", () -> tree("branch 5 0 1 3 wet;body 9 9 9;").with("tune 3 0"),
            "holds 0 0", 3);
        due("slip 4 at first", "branch 5 0 9 0 wet;body 9 9 0;", "holds 0 0", 6);
    }

    /** The upper number, the lower number, the steps. */
    private static void odds(String told, Supplier<Caller> made, String way, long upper, long lower, long steps) {
        due(told, made, "best 0 " + way + " 0", upper, "best 0 " + way + " 1", lower, "best 0 " + way + " 2", steps);
    }

    private static void odds(String told, String text, String way, long upper, long lower, long steps) {
        odds(told, () -> tree(text), way, upper, lower, steps);
    }

    /** Of many branches, each 1 higher and held by so many tenths, and a body of reach 1 that needs a step for each. */
    private static String ladder(int many, int sound) {
        StringBuilder s = new StringBuilder();
        for (int b = 0; b < many; b++) {
            s.append("branch ").append(b + 1).append(" 0 1 ").append(sound).append(';');
        }
        return s + "body 1 3 0;";
    }

    private static void best() {
        odds("a branch to itself", "branch 5 0 9 0;" + BODY, "0 0", 1, 1, 0);
        odds("the ground to itself", "branch 5 0 9 0;" + BODY, "-1 -1", 1, 1, 0);
        odds("the ground to itself, no branches", BODY, "-1 -1", 1, 1, 0);
        odds("a branch to itself that nothing reaches", "branch 99 0 1 0;body 1 99 0;", "0 0", 1, 1, 0);
        odds("held by 10", "branch 5 0 1 10;" + BODY.replace("20", "3"), "-1 0", 1, 1, 1);
        odds("held by 1", "branch 5 0 1 1;body 9 3 9;", "-1 0", 1, 10, 1);
        odds("held by 0: none", "branch 5 0 1 0;body 9 3 9;", "-1 0", NONE, NONE, NONE);
        odds("it may not be: none", "branch 10 0 1 9;body 9 3 9;", "-1 0", NONE, NONE, NONE);
        odds("least terms", "branch 5 0 1 4;body 9 3 9;", "-1 0", 2, 5, 1);
        odds("onto the ground it is sure", "branch 5 0 1 1;body 9 3 9;", "0 -1", 1, 1, 1);
        odds("12 steps by 1", ladder(12, 1), "-1 11", 1, 1000000000000L, 12);
        odds("12 steps by 9", ladder(12, 9), "-1 11", 282429536481L, 1000000000000L, 12);
        odds("12 steps by 3", ladder(12, 3), "-1 11", 531441, 1000000000000L, 12);
        odds("12 steps by 10", ladder(12, 10), "-1 11", 1, 1, 12);
        odds("one of 12 holds by 0", ladder(11, 9).replace("body", "branch 12 0 1 0;body"), "-1 11", NONE, NONE, NONE);
        odds("a place that holds by 0 can be left", "branch 5 0 1 0;branch 6 0 1 7;body 3 3 9;", "0 1", 7, 10, 1);
        odds("down 12 steps", () -> tree(ladder(12, 5)).with("tune 2 0"), "11 -1", 1, 2048, 12);
    }

    private static void bestSteps() {
        odds("of the same odds the fewest steps", ladder(6, 10).replace("body 1", "body 6"), "-1 5", 1, 1, 1);
        odds("fewest by reach", ladder(6, 10).replace("body 1", "body 5"), "-1 5", 1, 1, 2);
        odds("better odds go ahead of fewer steps", "branch 4 0 1 10;branch 8 0 1 10;branch 9 4 1 10;branch 6 7 1 9;"
            + "body 5 3 9;", "-1 1", 1, 1, 2);
        odds("a step more for better odds",
            "branch 4 0 1 3;branch 3 2 1 9;branch 4 1 1 9;branch 8 0 1 10;body 4 3 9;", "-1 3", 9, 10, 2);
        odds("and so do two steps more",
            "branch 4 0 1 3;branch 3 4 1 10;branch 7 2 1 10;branch 8 0 1 10;body 4 3 9;", "-1 3", 1, 1, 3);
        odds("as good by two ways", "branch 4 0 1 5;branch 4 2 1 5;branch 8 1 1 8;body 5 3 9;", "-1 2", 2, 5, 2);
        odds("4 by 10 is more than 6 by 10 twice", sixesOr(4), "-1 3", 2, 5, 2);
        odds("3 by 10 is less than 6 by 10 twice", sixesOr(3), "-1 3", 9, 25, 3);
        String same = sixesOr(4).replace("branch 5 2 1 6;branch 9 1 1 6", "branch 5 2 1 5;branch 9 1 1 8");
        odds("4 by 10 is as much as 5 by 10 and 8 by 10: the fewer steps", same, "-1 3", 2, 5, 2);
        odds("5 by 10 and 8 by 10 alone", () -> tree(same).with("sawn 4"), "-1 3", 2, 5, 3);
    }

    /** Branch 3 is come to by 0 and 1, held by 6 each, or by 2 alone. */
    private static String sixesOr(int sound) {
        return "branch 5 2 1 6;branch 9 1 1 6;branch 8 0 1 " + sound + ";branch 15 0 1 10;body 8 3 9;";
    }

    private static void bestSawn() {
        String three = "branch 5 0 30 10;branch 10 0 30 10;branch 15 0 30 10;body 5 3 9;";
        odds("to a sawn one", () -> tree(three).with("sawn 4"), "-1 2", NONE, NONE, NONE);
        odds("from a sawn one", () -> tree(three).with("sawn 1"), "0 1", NONE, NONE, NONE);
        odds("by a sawn one", () -> tree(three).with("sawn 2"), "-1 2", NONE, NONE, NONE);
        odds("a sawn one to itself", () -> tree(three).with("sawn 2"), "1 1", 1, 1, 0);
        odds("sawn no more", () -> tree(three).with("sawn 2;sawn 0"), "-1 2", 1, 1, 3);
        due("what is 0 .. 2", three, "best 0 -1 0 -1", BAD, "best 0 -1 0 3", BAD);
        due("a place is -1 at least", three, "best 0 -2 0 0", BAD, "best 0 0 -2 0", BAD);
        due("a place is 2 at most", three, "best 0 3 0 0", BAD, "best 0 0 3 0", BAD);
    }

    private static void high() {
        due("no branches", BODY, "high 0 0", 0, "high 0 1", 0);
        due("none in reach", "branch 11 0 9 9;" + BODY, "high 0 0", 0, "high 0 1", 0);
        due("1 high", "branch 1 0 9 9;body 3 1 1;", "high 0 0", 1, "high 0 1", 1);
        due("99 high", "branch 30 0 9 9;branch 60 0 9 9;branch 90 0 9 9;branch 99 0 9 9;body 30 1 1;", "high 0 0", 99);
        due("odds above 0", "branch 5 0 1 1;branch 6 0 1 0;body 9 3 9;", "high 0 0", 5);
        due("12 steps by 1", ladder(12, 1), "high 0 0", 12);
        due("by a branch of odds 0", "branch 5 0 1 0;branch 10 0 1 10;body 5 3 9;", "high 0 0", 0);
        due("a sawn one", () -> tree("branch 5 0 9 9;branch 6 0 9 9;" + BODY).with("sawn 2"), "high 0 0", 5);
        due("all sawn", () -> tree("branch 5 0 9 9;branch 6 0 9 9;" + BODY).with("sawn 3"), "high 0 0", 0);
        due("back from the ground", () -> tree("branch 11 0 9 9;" + BODY).with("tune 5 1"), "high 0 0", 11);
        due("the last of three bodies", "branch 5 0 9 9;body 1 1 1;body 4 1 1;body 5 1 1;", "high 2 0", 5,
            "high 1 0", 0, "high 3 0", BAD);
    }

    private static void too() {
        due("down by reach less blind", "branch 8 0 9 9;" + BODY, "high 0 1", 8);
        due("down by one more", "branch 9 0 9 9;" + BODY, "high 0 0", 9, "high 0 1", 0);
        due("down by another branch", "branch 10 0 9 9;branch 8 0 9 9;" + BODY, "high 0 1", 10);
        due("not down by a branch of odds 0", "branch 10 0 1 9;branch 8 0 1 0;body 10 3 9;", "high 0 1", 0);
        due("down from a branch of odds 1 by 10", "branch 8 0 1 1;body 10 3 9;", "high 0 1", 8);
        due("what one comes down from, but not up to", "branch 8 0 9 9;branch 12 4 9 9;branch 4 4 9 9;" + BODY,
            "high 0 0", 12, "high 0 1", 12);
        due("up to, but not down from", "branch 8 0 9 9;branch 18 0 9 9;" + BODY, "high 0 0", 18, "high 0 1", 8);
        due("down from, but not up to", () -> tree("branch 30 0 9 9;branch 21 0 9 9;branch 5 0 9 9;body 18 1 1;")
            .with("sawn 4"), "high 0 1", 0);
        due("what is 0, 1", "branch 8 0 9 9;" + BODY, "high 0 2", BAD, "high 0 -1", BAD);
    }

    private static void sure() {
        due("odds of h hundredths", "branch 5 0 1 7;body 9 3 9;", "sure 0 70", 5);
        due("h 1 more than the odds", "branch 5 0 1 7;body 9 3 9;", "sure 0 71", 0);
        due("h 1 less than the odds", "branch 5 0 1 7;body 9 3 9;", "sure 0 69", 5);
        due("h 0 still asks for odds above 0", "branch 5 0 1 0;branch 4 0 1 1;body 9 3 9;", "sure 0 0", 4);
        due("h 0, none above 0", "branch 5 0 1 0;body 9 3 9;", "sure 0 0", 0);
        due("h 0, no way", "branch 10 0 1 9;body 9 3 9;", "sure 0 0", 0);
        due("h 0, odds of 1 by 10 to the 12", ladder(12, 1), "sure 0 0", 12, "sure 0 1", 2);
        due("h 100, all held by 10", ladder(12, 10), "sure 0 100", 12);
        due("h 100, held by 9", ladder(1, 9), "sure 0 100", 0);
        due("h 81: two steps by 9", ladder(3, 9), "sure 0 81", 2);
        due("h 82: one step by 9", ladder(3, 9), "sure 0 82", 1);
        due("h 72: 729 of 1000", ladder(3, 9), "sure 0 72", 3);
        due("h 73: 729 of 1000 are less", ladder(3, 9), "sure 0 73", 2);
        due("h -1", ladder(3, 9), "sure 0 -1", BAD);
        due("h 101", ladder(3, 9), "sure 0 101", BAD);
        due("no branches", BODY, "sure 0 0", 0, "sure 0 100", 0);
        due("a sawn one", () -> tree(ladder(3, 10)).with("sawn 4"), "sure 0 100", 2);
    }

    private static void help() {
        String one = "branch 30 0 9 9;" + BODY;
        due("back 20 by 10", one, "help 0 20", 30);
        due("back 19 by 10", one, "help 0 19", 0);
        due("back 20, one higher", "branch 31 0 9 9;" + BODY, "help 0 20", 0);
        due("back 0", one, "help 0 0", 0);
        due("back 1", "branch 11 0 9 9;" + BODY, "help 0 1", 11, "help 0 0", 0);
        due("b -1", one, "help 0 -1", BAD);
        due("b 21", one, "help 0 21", BAD);
        due("no branches", BODY, "help 0 20", 0);
        due("less what was had without", "branch 7 0 9 9;branch 25 0 9 9;" + BODY, "help 0 14", 0, "help 0 15", 18);
        due("the tune does not count", () -> tree(one).with("tune 5 20"), "help 0 20", 30, "help 0 0", 0,
            "high 0 0", 30, "tune 5 0", 20);
        due("held by 0", "branch 30 0 1 0;body 10 3 9;", "help 0 20", 0);
        due("it brings what lies behind, too", "branch 11 0 9 9;branch 21 0 9 9;branch 31 0 9 9;" + BODY,
            "help 0 1", 31);
    }

    private static void stuck() {
        due("not stuck", "branch 8 0 9 9;" + BODY, "stuck 0 0", 0);
        due("stuck by 1", "branch 9 0 9 9;" + BODY, "stuck 0 0", 1);
        due("stuck by 30", "branch 38 0 9 9;" + BODY, "stuck 0 0", 30);
        due("stuck by 31", "branch 39 0 9 9;" + BODY, "stuck 0 0", NONE);
        due("30 and 30", () -> tree("branch 60 0 9 9;body 30 9 9;").with("tune 2 0"), "stuck 0 0", 30);
        due("30 and 31", () -> tree("branch 61 0 9 9;body 30 9 9;").with("tune 2 0"), "stuck 0 0", NONE);
        due("99 high", "branch 99 0 9 9;body 30 9 9;", "stuck 0 0", NONE);
        due("blind 9, reach 1, 1 high", () -> tree("branch 1 0 9 9;body 1 9 9;").with("tune 2 9"), "stuck 0 0", 9);
        due("by another branch", "branch 38 0 9 9;branch 19 0 9 9;" + BODY, "stuck 0 0", 11, "stuck 0 1", 11);
        due("not by a branch of odds 0", "branch 38 0 1 9;branch 19 0 1 0;body 10 3 9;", "stuck 0 0", 30,
            "stuck 0 1", 11);
        due("not by a branch on the other side", "branch 38 0 9 9;branch 19 3 9 9;" + BODY, "stuck 0 0", 30);
        due("not by one that does not bear", "branch 38 0 9 9;branch 19 0 1 9;body 10 4 9;", "stuck 0 0", 30);
        due("by a branch above", "branch 16 0 9 9;branch 18 2 9 9;branch 9 4 9 9;body 10 9 9;", "stuck 0 0", 1);
        due("back does not help", () -> tree("branch 9 0 9 9;" + BODY).with("tune 5 20"), "stuck 0 0", 1);
        due("a sawn one", () -> tree("branch 8 0 9 9;" + BODY).with("sawn 1"), "stuck 0 0", NONE);
        due("the ground is no branch", "branch 8 0 9 9;" + BODY, "stuck 0 -1", BAD, "stuck 0 1", BAD);
    }

    private static void rubbed() {
        due("one way", "branch 5 0 9 9;" + BODY, "rubbed 0 0 0", 1);
        due("no way: one higher than reach", "branch 11 0 9 9;" + BODY, "rubbed 0 0 0", 0);
        due("odds do not matter", "branch 5 0 1 0;branch 6 0 1 0;body 9 3 9;", "rubbed 0 1 0", 2);
        due("weight does", "branch 5 0 1 0;branch 6 0 9 0;body 9 4 9;", "rubbed 0 0 0", 0, "rubbed 0 1 0", 1);
        due("12 branches: all of them that lie below or not", ladder(12, 1).replace("body 1", "body 30"),
            "rubbed 0 11 0", 2048, "rubbed 0 0 0", 1, "rubbed 0 12 0", BAD);
        due("12 branches: always the next", ladder(12, 1), "rubbed 0 11 0", 1);
        due("no step as high", "branch 5 0 9 9;branch 5 0 9 9;" + BODY, "rubbed 0 0 0", 1, "rubbed 0 1 0", 1);
        due("no step down", "branch 5 0 9 9;branch 9 0 9 9;branch 8 0 9 9;branch 18 0 9 9;" + BODY, "rubbed 0 3 0", 6);
        due("back from the ground", () -> tree("branch 11 0 9 9;branch 21 0 9 9;" + BODY).with("tune 5 1"),
            "rubbed 0 1 0", 1);
        due("back 11", () -> tree("branch 11 0 9 9;branch 21 0 9 9;" + BODY).with("tune 5 11"), "rubbed 0 1 0", 2);
        due("blind does not matter", () -> tree("branch 5 0 9 9;branch 15 0 9 9;" + BODY).with("tune 2 9"),
            "rubbed 0 1 0", 1);
        due("a sawn one: 0", () -> tree("branch 5 0 9 9;" + BODY).with("sawn 1"), "rubbed 0 0 0", 0, "rubbed 0 0 1", 0);
        due("past a sawn one", () -> tree("branch 5 0 9 9;branch 9 0 9 9;" + BODY).with("sawn 1"), "rubbed 0 1 0", 1,
            "rubbed 0 1 1", 0);
        due("the ground is no branch", "branch 8 0 9 9;" + BODY, "rubbed 0 -1 0", BAD, "rubbed 0 1 0", BAD);
        due("no such body", "branch 8 0 9 9;" + BODY, "rubbed 1 0 0", BAD, "rubbed -1 0 0", BAD);
    }

    private static void rubbedSets() {
        String four = ladder(4, 9).replace("body 1", "body 30");
        due("by none", four, "rubbed 0 3 0", 8);
        due("by the first", four, "rubbed 0 3 1", 4);
        due("by all three below", four, "rubbed 0 3 7", 1);
        due("by all four", four, "rubbed 0 3 15", 1, "rubbed 0 3 8", 8);
        due("by one above", four, "rubbed 0 2 8", 0);
        due("bits that there are not", four, "rubbed 0 3 16", 8, "rubbed 0 3 -16", 8, "rubbed 0 3 -2147483648", 8,
            "rubbed 0 3 2147483632", 8);
        due("all bits", four, "rubbed 0 3 -1", 1, "rubbed 0 3 2147483647", 1);
        due("by two as high", "branch 5 0 9 9;branch 5 1 9 9;branch 9 0 9 9;" + BODY, "rubbed 0 2 3", 0,
            "rubbed 0 2 1", 1, "rubbed 0 2 2", 1, "rubbed 0 2 0", 3);
        due("by one as high as where it ends", "branch 5 0 9 9;branch 5 1 9 9;" + BODY, "rubbed 0 0 2", 0);
        due("of 12 by the first and the last", ladder(12, 1).replace("body 1", "body 30"), "rubbed 0 11 2049", 1024);
        due("of 12 by all", ladder(12, 1).replace("body 1", "body 30"), "rubbed 0 11 4095", 1,
            "rubbed 0 11 4096", 2048);
        due("by one that no way comes to", "branch 5 0 9 9;branch 6 4 1 9;branch 9 0 9 9;" + BODY, "rubbed 0 2 2", 0,
            "rubbed 0 2 0", 2);
    }
}
