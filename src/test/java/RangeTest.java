import java.util.ArrayList;
import java.util.List;
import java.util.function.Function;

/**
 * Promises 1 to 34: of every number that a call takes, the least and the greatest that is told, one less and one more,
 * and the ends of int, in four states. A number that is not as told is refused, and changes nothing; the others answer
 * as Model does. Each of these is a test of its own.
 */
public final class RangeTest {
    private static final Check CHECK = new Check("RangeTest");
    private static final String ANY = "any", BODY = "body", BRANCH = "branch", PLACE = "place";
    private static final int BAD = TreeClimb.BAD, NO = TreeClimb.NO;

    /** A call, what it answers if a number is not as told,
        and of each number which it may be (one alone: it is given). */
    private record Row(String name, int refusal, String... numbers) { }

    private static final Row[] ROWS = {
        new Row("type", BAD, ANY, "1 8"),
        new Row("branch", BAD, BRANCH, "0 6"),
        new Row("body", BAD, BODY, "0 2"),
        new Row("tune", BAD, "0 5", "1"),
        new Row("tune", BAD, "0", "1 9"),
        new Row("tune", BAD, "1", "0 4"),
        new Row("tune", BAD, "2", "0 9"),
        new Row("tune", BAD, "3", "0 10"),
        new Row("tune", BAD, "4", "1 9"),
        new Row("tune", BAD, "5", "0 20"),
        new Row("sawn", BAD, ANY),
        new Row("step", BAD, BODY, PLACE, PLACE),
        new Row("holds", BAD, BODY, BRANCH),
        new Row("best", BAD, BODY, PLACE, PLACE, "0 2"),
        new Row("high", BAD, BODY, "0 1"),
        new Row("sure", BAD, BODY, "0 100"),
        new Row("help", BAD, BODY, "0 20"),
        new Row("stuck", BAD, BODY, BRANCH),
        new Row("rubbed", BAD, BODY, BRANCH, ANY),
        new Row("tried", BAD, BRANCH, "0 10", "0 9", "0 1"),
        new Row("tries", BAD, BRANCH, "0 10", "0 100"),
        new Row("sway", BAD, BODY, BRANCH, "0 20"),
        new Row("calm", BAD, BODY, BRANCH, "0 9999"),
        new Row("fall", BAD, BRANCH, "0 1"),
        new Row("saw", BAD, BODY, "0 9999", "0 99", "0 1"),
        new Row("afternoon", BAD, BODY, "0 9", "0 99"),
        new Row("dares", BAD, BODY, "0 9", "0 99", "0 1"),
        new Row("looked", NO, BODY),
        new Row("goes", BAD, BODY),
        new Row("climb", NO, PLACE),
        new Row("now", NO, "0 5"),
        new Row("lot", BAD, ANY),
        new Row("mark", NO, "0 5", BRANCH),
        new Row("keep", BAD, "0 1"),
        new Row("back", BAD, "0 1"),
        new Row("count", BAD, "0 4"),
    };

    public static void main(String[] args) {
        state("nothing", 0, 0, RangeTest::nothing);
        state("one of each", 1, 1, RangeTest::one);
        state("some", 4, 2, RangeTest::some);
        state("all there may be", 12, 3, RangeTest::all);
        CHECK.end();
    }

    private static Caller nothing(Object asked) {
        return new Caller(asked);
    }

    private static Caller one(Object asked) {
        return new Caller(asked).tree("branch 5 7 9 8 wet;body 6 8 4;").with("keep 1;lot -7");
    }

    private static Caller some(Object asked) {
        return new Caller(asked).tree("branch 5 0 30 10;branch 9 1 30 10 wet;branch 12 2 9 6 nest;branch 3 7 8 9;"
            + "body 6 20 9;body 7 19 3;")
            .with("tune 5 2;tune 2 1;tune 0 4;goes 1;climb 0;climb 1;keep 0;climb 2;afternoon 0 3 60;afternoon 0 0 50;"
                + "afternoon 1 0 12;mark 3 2;sawn 8;climb 0;lot 77").types("branch 7 3 9 8 nest;  body 4 5 6;");
    }

    private static Caller all(Object asked) {
        StringBuilder tree = new StringBuilder();
        for (int b = 0; b < 12; b++) {
            tree.append("branch ").append(9 + 8 * b).append(b % 2 == 0 ? " 0 30 9;" : " 7 8 8 wet nest;");
        }
        Caller x = new Caller(asked).tree(tree + "body 9 9 9;body 6 99 0;body 10 24 0;");
        for (int i = 0; i < 40; i++) {
            x.ask("afternoon " + i % 3 + " " + i % 10 + " " + (99 - i));
        }
        String text = "branch 1 1 2 3 wet;" + " ".repeat(370) + "body 1 2 3;";
        return x.with("goes 2;keep 0;climb 0;climb 1;keep 1;climb 2;sawn 2048;tune 4 9").types(text);
    }

    private static void state(String told, int branches, int bodies, Function<Object, Caller> made) {
        for (Row row : ROWS) {
            List<long[]> bounds = new ArrayList<>();
            for (String number : row.numbers) {
                bounds.add(boundsOf(number, branches, bodies));
            }
            good(told, row, bounds, made);
            for (int i = 0; i < bounds.size(); i++) {
                if (!row.numbers[i].equals(ANY) && !row.numbers[i].matches("[0-9]")) {
                    bad(told, row, bounds, i, made);
                }
            }
        }
    }

    /** The least and the greatest; the least is above the greatest where there is none. */
    private static long[] boundsOf(String number, int branches, int bodies) {
        switch (number) {
            case ANY: return new long[] {Integer.MIN_VALUE, Integer.MAX_VALUE};
            case BODY: return new long[] {0, bodies - 1};
            case BRANCH: return new long[] {0, branches - 1};
            case PLACE: return new long[] {-1, branches - 1};
            default:
                String[] ends = number.split(" ");
                return new long[] {Long.parseLong(ends[0]), Long.parseLong(ends[ends.length - 1])};
        }
    }

    /** All calls whose numbers are the least or the greatest, the i-th of them this one (none, if i is -1),
        or all this one. */
    private static List<String> calls(Row row, List<long[]> bounds, int i, long v) {
        List<String> calls = new ArrayList<>(List.of(row.name));
        for (int k = 0; k < bounds.size(); k++) {
            List<String> longer = new ArrayList<>();
            long[] b = bounds.get(k);
            for (String call : calls) {
                longer.add(call + " " + (k == i ? v : b[0]));
                if (k != i && b[1] > b[0]) {
                    longer.add(call + " " + b[1]);
                }
            }
            calls = longer;
        }
        if (i >= 0 && !row.name.equals("tune")) {
            calls.add(row.name + (" " + v).repeat(row.numbers.length));
        }
        return calls;
    }

    private static void bad(String told, Row row, List<long[]> bounds, int i, Function<Object, Caller> made) {
        long[] b = bounds.get(i);
        String due = made.apply(new TreeClimb()).show();
        long[] wrong = {b[0] - 1, b[1] + 1, Integer.MIN_VALUE, Integer.MAX_VALUE, -1000000, -33, -32, 31, 32, 33, 64,
            256, 1 << 30};
        for (long v : wrong) {
            if (v >= b[0] && v <= b[1]) {
                continue;
            }
            for (String call : calls(row, bounds, i, v)) {
                CHECK.test(told, () -> CHECK.refused(call, made.apply(new TreeClimb()), row.refusal, due));
            }
        }
    }

    private static void good(String told, Row row, List<long[]> bounds, Function<Object, Caller> made) {
        for (long[] b : bounds) {
            if (b[0] > b[1]) {
                return;
            }
        }
        for (String call : calls(row, bounds, -1, 0)) {
            CHECK.test(told, () -> answers(row, call, made));
        }
    }

    private static void answers(Row row, String call, Function<Object, Caller> made) {
        Caller x = made.apply(new TreeClimb());
        Caller model = made.apply(new Model());
        long got = x.ask(call);
        CHECK.same(call, got, model.ask(call));
        if (!List.of("step", "climb", "looked", "lot").contains(row.name)) {
            CHECK.that(call + " is not refused", got != row.refusal);
        }
        CHECK.shows(call + " leaves what is due", x, model.show());
    }
}
