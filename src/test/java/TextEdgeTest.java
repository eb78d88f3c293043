import java.util.function.Supplier;

/** Promises 1 to 4, boundary case by boundary case, as the sentences of the document name them. */
public final class TextEdgeTest {
    private static final Check CHECK = new Check("TextEdgeTest");
    private static final String BRANCH = "branch 1 0 1 1;", BODY = "body 1 1 1;";
    private static final int BAD = TreeClimb.BAD, STATE = TreeClimb.STATE, FULL = TreeClimb.FULL, NO = TreeClimb.NO;

    public static void main(String[] args) {
        newObject();
        type();
        typeFull();
        clear();
        howMany();
        numbersOfABranch();
        numbersOfABody();
        numbersThatAreNone();
        words();
        blanks();
        bytesThatBeginNone();
        endsTooEarly();
        faultsPlace();
        textStays();
        treeAnew();
        treeAnewStays();
        CHECK.end();
    }

    /** A new object with this text. */
    private static Caller typed(String text) {
        return new Caller(new TreeClimb()).types(text);
    }

    private static void reads(String told, String text, int items) {
        CHECK.test(told, () -> {
            Caller x = typed(text);
            CHECK.same("tree() of '" + text + "'", x.ask("tree"), items);
            CHECK.same("branches and bodies", x.ask("count 0") + x.ask("count 1"), items);
            CHECK.same("bytes left", x.ask("count 4"), 0);
        });
    }

    /** The text has its fault there; an object that has a tree, a climb, afternoons, images keeps them,
        and the text. */
    private static void faults(String told, String text, int place) {
        CHECK.test(told, () -> {
            CHECK.same("tree() of '" + text + "'", typed(text).ask("tree"), -10 - place);
            Supplier<Caller> made = () -> new Caller(new TreeClimb())
                .tree("branch 5 1 9 10;branch 4 1 9 0 nest;body 9 9 3;body 8 8 8;")
                .with("goes 1;climb 0;keep 1;sawn 2;afternoon 1 2 3;mark 0 0;tune 1 1").types(text);
            CHECK.refused("tree", made, -10 - place);
        });
    }

    private static void newObject() {
        Caller x = typed("");
        for (int what = 0; what < 5; what++) {
            int counted = what;
            CHECK.test("a new object counts none", () -> CHECK.same("count", x.ask("count " + counted), 0));
        }
        CHECK.test("a new climb is body 0's", () -> CHECK.same("now", x.ask("now 0"), 0));
        CHECK.test("a new climb is on the ground", () -> CHECK.same("now", x.ask("now 1"), -1));
        for (int what = 2; what < 6; what++) {
            int asked = what;
            CHECK.test("a new climb has no hurt, top, steps, falls", () -> CHECK.same("now", x.ask("now " + asked), 0));
        }
        int[] tunes = {3, 2, 2, 4, 3, 0};
        for (int what = 0; what < 6; what++) {
            int asked = what;
            CHECK.test("a tune at first", () -> CHECK.same("tune", x.ask("tune " + asked + " 1"), tunes[asked]));
        }
        CHECK.test("the lot is 1", () -> CHECK.same("lot", typed("").ask("lot 0"), 1));
        CHECK.test("the trace is 0", () -> CHECK.same("trace", typed("").ask("trace"), 0));
        CHECK.test("nothing is sawn", () -> CHECK.same("sawn", typed("").ask("sawn -1"), 0));
        CHECK.test("no image 0", () -> CHECK.same("back", typed("").ask("back 0"), STATE));
        CHECK.test("no image 1", () -> CHECK.same("back", typed("").ask("back 1"), STATE));
        CHECK.test("no text", () -> CHECK.same("clear", typed("").ask("clear"), 0));
        CHECK.test("no branch", () -> CHECK.same("branch", typed("").ask("branch 0 0"), BAD));
        CHECK.test("no body", () -> CHECK.same("body", typed("").ask("body 0 0"), BAD));
        CHECK.test("no body climbs", () -> CHECK.same("climb", typed("").ask("climb -1"), NO));
    }

    /** What of v comes to the text shows by where the fault is, or that there is none. */
    private static void type() {
        CHECK.test("1 byte, the lowest", () -> {
            Caller x = typed("body 1 1 1");
            CHECK.same("type", x.ask("type " + 0x787878787878783bL + " 1"), 11);
            CHECK.same("tree", x.ask("tree"), 1);
        });
        CHECK.test("8 bytes, the highest first", () -> {
            Caller x = new Caller(new TreeClimb());
            CHECK.same("type", x.ask("type " + 0x626f647920312031L + " 8"), 8);
            CHECK.same("type", x.ask("type " + 0x787878782031303bL + " 4"), 12);
            CHECK.same("a grip of 10", x.ask("tree"), -10 - 9);
        });
        CHECK.test("8 bytes, the highest of them above 127", () -> {
            Caller x = typed(" ");
            CHECK.same("type", x.ask("type " + 0xff20202020202020L + " 8"), 9);
            CHECK.same("its fault is at the first", x.ask("tree"), -11);
        });
        CHECK.test("7 bytes leave the highest out", () -> {
            Caller x = typed(" ");
            CHECK.same("type", x.ask("type " + 0xff20202020202020L + " 7"), 8);
            CHECK.same("blanks alone", x.ask("tree"), 0);
        });
        for (int n = 1; n <= 8; n++) {
            String call = "type -1 " + n;
            int bytes = n;
            CHECK.test("n bytes come", () -> CHECK.same(call, typed("").ask(call), bytes));
            CHECK.test("n bytes come to what there is", () -> CHECK.same(call, typed(BODY).ask(call), 11 + bytes));
        }
        for (String n : new String[] {"0", "9", "-1", "-8", "16", "264", "-2147483648", "2147483647"}) {
            CHECK.test("n is 1 .. 8", () -> CHECK.refused("type 0 " + n, () -> typed(BODY), BAD));
        }
    }

    private static void typeFull() {
        for (int n = 1; n <= 8; n++) {
            int bytes = n;
            String call = "type 0 " + n;
            CHECK.test("400 bytes at most", () -> {
                Caller x = typed(" ".repeat(400 - bytes));
                CHECK.same(call, x.ask(call), 400);
                CHECK.same("and one more", x.ask("type 0 1"), FULL);
            });
            CHECK.test("a byte more than 400", () ->
                CHECK.refused(call, () -> typed(BODY + " ".repeat(401 - bytes - 11)), FULL));
            CHECK.test("a full text", () -> CHECK.refused(call, () -> typed(BODY + " ".repeat(389)), FULL));
        }
        CHECK.test("what is too much is refused whole, less of it is taken", () -> {
            Caller x = typed(" ".repeat(398));
            CHECK.same("3", x.ask("type 0 3"), FULL);
            CHECK.same("2", x.ask("type 0 2"), 400);
        });
        for (String n : new String[] {"0", "9"}) {
            CHECK.test("BAD ahead of FULL", () -> CHECK.refused("type 0 " + n, () -> typed(BODY + " ".repeat(389)),
                BAD));
        }
        CHECK.test("a cleared text takes 400 again", () -> {
            Caller x = typed(" ".repeat(400));
            CHECK.same("clear", x.ask("clear"), 400);
            x.types(BODY + " ".repeat(389));
            CHECK.same("count", x.ask("count 4"), 400);
            CHECK.same("tree", x.ask("tree"), 1);
            CHECK.same("a read one, too", x.types(" ".repeat(400)).ask("count 4"), 400);
        });
    }

    private static void clear() {
        for (int bytes : new int[] {0, 1, 8, 399, 400}) {
            CHECK.test("how many bytes it had", () -> {
                Caller x = typed(" ".repeat(bytes));
                CHECK.same("clear", x.ask("clear"), bytes);
                CHECK.same("then none", x.ask("count 4"), 0);
                CHECK.same("nor to clear", x.ask("clear"), 0);
                CHECK.same("nothing of it is read", x.types(BODY).ask("tree"), 1);
            });
        }
        CHECK.test("a faulty text is cleared", () -> {
            Caller x = typed("x");
            CHECK.same("tree", x.ask("tree"), -10);
            CHECK.same("clear", x.ask("clear"), 1);
            CHECK.same("tree", x.ask("tree"), 0);
        });
        CHECK.test("the tree stays", () -> {
            Caller x = typed("").tree(BRANCH + BODY).types(BODY);
            x.ask("clear");
            CHECK.same("branches", x.ask("count 0"), 1);
            CHECK.same("bodies", x.ask("count 1"), 1);
        });
    }

    private static void howMany() {
        reads("nothing at all", "", 0);
        reads("a body alone", BODY, 1);
        reads("a branch alone", BRANCH, 1);
        reads("12 branches", BRANCH.repeat(12), 12);
        reads("3 bodies", BODY.repeat(3), 3);
        reads("12 branches, 3 bodies", BRANCH.repeat(12) + BODY.repeat(3), 15);
        reads("3 bodies ahead of 12 branches", BODY.repeat(3) + BRANCH.repeat(12), 15);
        reads("bodies between branches", (BRANCH.repeat(4) + BODY).repeat(3), 15);
        faults("a 13th branch", BRANCH.repeat(13), 180);
        faults("a 13th branch, though that word is all", BRANCH.repeat(12) + "branch", 180);
        faults("a 13th branch behind 3 bodies", BODY.repeat(3) + BRANCH.repeat(12) + " branch 0", 214);
        faults("a fourth body", BODY.repeat(4), 33);
        faults("a fourth body, though that word is all", BODY.repeat(3) + "body", 33);
        faults("a fourth body behind 12 branches", BRANCH.repeat(12) + BODY.repeat(3) + BODY, 213);
        faults("a 13th branch ahead of its own faults", BRANCH.repeat(12) + "branch x", 180);
        CHECK.test("the 12th branch and the third body are those read last", () -> {
            Caller x = typed("").tree(BRANCH.repeat(11) + BODY.repeat(2) + "body 7 8 9;branch 99 7 30 10 wet nest;");
            CHECK.same("branch 11", x.ask("branch 11 0"), 99);
            CHECK.same("branch 10", x.ask("branch 10 0"), 1);
            CHECK.same("branch 12", x.ask("branch 12 0"), BAD);
            CHECK.same("body 2", x.ask("body 2 0"), 7);
            CHECK.same("body 1", x.ask("body 1 0"), 1);
            CHECK.same("body 3", x.ask("body 3 0"), BAD);
        });
    }

    private static void numbersOfABranch() {
        String[] names = {"height", "side", "thick", "sound"};
        int[] least = {1, 0, 1, 0};
        int[] most = {99, 7, 30, 10};
        for (int what = 0; what < 4; what++) {
            String name = names[what];
            for (int v : new int[] {least[what], most[what]}) {
                String text = withNumber("branch", new int[] {5, 5, 5, 5}, what, v);
                reads(name + " " + v, text, 1);
                String call = "branch 0 " + what;
                CHECK.test(name, () -> CHECK.same(call, typed("").tree(text).ask(call), v));
            }
            for (int v : new int[] {least[what] - 1, most[what] + 1, 99, 100}) {
                if (v >= 0 && (v > most[what] || v < least[what])) {
                    faults(name + " " + v, withNumber("branch", new int[] {5, 5, 5, 5}, what, v), 7 + 2 * what);
                }
            }
            faults(name + " below 0", withNumber("branch", new int[] {5, 5, 5, 5}, what, -1), 7 + 2 * what);
        }
        faults("a fifth number", "branch 1 0 1 1 1;", 15);
        faults("three numbers", "branch 1 0 1;", 12);
        faults("no number", "branch;", 6);
    }

    private static void numbersOfABody() {
        String[] names = {"reach", "weight", "grip"};
        int[] least = {1, 1, 0};
        int[] most = {30, 99, 9};
        for (int what = 0; what < 3; what++) {
            String name = names[what];
            for (int v : new int[] {least[what], most[what]}) {
                String text = withNumber("body", new int[] {5, 5, 5}, what, v);
                reads(name + " " + v, text, 1);
                String call = "body 0 " + what;
                CHECK.test(name, () -> CHECK.same(call, typed("").tree(text).ask(call), v));
            }
            for (int v : new int[] {least[what] - 1, most[what] + 1, 100}) {
                if (v >= 0) {
                    faults(name + " " + v, withNumber("body", new int[] {5, 5, 5}, what, v), 5 + 2 * what);
                }
            }
            faults(name + " below 0", withNumber("body", new int[] {5, 5, 5}, what, -1), 5 + 2 * what);
        }
        faults("a fourth number", "body 1 1 1 1;", 11);
        faults("two numbers", "body 1 1;", 8);
        faults("no number", "body;", 4);
    }

    private static String withNumber(String word, int[] numbers, int what, int v) {
        numbers[what] = v;
        StringBuilder s = new StringBuilder(word);
        for (int number : numbers) {
            s.append(' ').append(number);
        }
        return s.append(';').toString();
    }

    private static void numbersThatAreNone() {
        reads("0 alone", "branch 9 0 9 0;", 1);
        faults("0 ahead of 0", "branch 9 00 9 0;", 9);
        faults("0 ahead of others", "branch 9 01 9 0;", 9);
        faults("0 ahead of two others", "branch 010 0 9 0;", 7);
        faults("0 ahead of others, where no number can stand", "01", 0);
        faults("100, where 99 is the most", "branch 100 0 1 1;", 7);
        faults("990", "branch 990 0 1 1;", 7);
        faults("2 to the 32 and 1", "branch 4294967297 0 1 1;", 7);
        faults("2 to the 31", "branch 2147483648 0 1 1;", 7);
        faults("2 to the 64 and 1", "branch 18446744073709551617 0 1 1;", 7);
        faults("392 digits", "branch " + "4".repeat(392) + ";", 7);
        faults("393 noughts", "branch " + "0".repeat(393), 7);
        faults("a number of 400 digits", "1".repeat(400), 0);
    }

    private static void words() {
        for (char c : new char[] {'a', 'b', 'y', 'z'}) {
            faults("a letter too many: " + c, "body" + c + " 1 1 1;", 0);
            faults("a letter ahead: " + c, c + "body 1 1 1;", 0);
            faults("a letter inside: " + c, "bo" + c + "dy 1 1 1;", 0);
        }
        faults("a letter too few", "branc 1 0 1 1;", 0);
        faults("another first letter", "cranch 1 0 1 1;", 0);
        faults("another last letter", "branci 1 0 1 1;", 0);
        faults("great letters", "BODY 1 1 1;", 0);
        faults("a great letter inside", "boDy 1 1 1;", 0);
        faults("two words as one", "bodybody 1 1 1;", 0);
        faults("wet and nest as one", "branch 1 0 1 1 wetnest;", 15);
        faults("a word of a letter", "a", 0);
        faults("a word of 400 letters", "b".repeat(400), 0);
        faults("wet ahead of an item", "wet " + BRANCH, 0);
        faults("nest ahead of an item", "nest " + BRANCH, 0);
        faults("wet twice", "branch 1 0 1 1 wet wet;", 19);
        faults("nest twice", "branch 1 0 1 1 nest nest;", 20);
        faults("wet behind nest", "branch 1 0 1 1 nest wet;", 20);
        faults("wet of a body", "body 1 1 1 wet;", 11);
        faults("nest of a body", "body 1 1 1 nest;", 11);
        faults("wet ahead of the numbers", "branch wet 1 0 1 1;", 7);
        faults("an unknown word behind the numbers", "branch 1 0 1 1 web;", 15);
        faults("; alone", ";", 0);
        faults("; twice", BODY + ";", 11);
        faults("a number alone", "1", 0);
        faults("a number for a word", "1 1 1 1;", 0);
        faults("a word for a number", "body one 1 1;", 5);
        faults("; too early", "body 1;", 6);
        faults("an item without its ;", "body 1 1 1 body 1 1 1;", 11);
        reads("wet", "branch 1 0 1 1 wet;", 1);
        reads("nest", "branch 1 0 1 1 nest;", 1);
        reads("wet and nest", "branch 1 0 1 1 wet nest;", 1);
    }

    private static void blanks() {
        reads("one blank", " ", 0);
        reads("400 blanks", " ".repeat(400), 0);
        reads("blanks ahead, between and behind",
            "   branch   1   0   1   1   wet   nest   ;   body   1   1   1   ;   ", 2);
        reads("no blank where a token ends without", "branch1 0 1 1wet;body1 1 1;", 2);
        reads("no blank behind a number", "branch 1 0 1 10nest;", 1);
        reads("no blank behind ;", BODY + BRANCH, 2);
        reads("400 bytes, the last a ;", " ".repeat(389) + BODY, 1);
        reads("400 bytes, the first a word's", BODY + " ".repeat(389), 1);
        faults("two numbers as one", "branch 11 1 1;", 13);
        faults("a blank in a word", "bo dy 1 1 1;", 0);
        faults("a blank in a number", "body 1 1 1 0;", 11);
    }

    private static void bytesThatBeginNone() {
        int[] bytes = {0, 1, 9, 10, 13, 31, 33, '-', '+', ',', '.', '/', ':', '<', '@', 'A', 'Z', '[', '_', '`', '{',
            127, 128,
            160, 176, 187, 225, 254, 255};
        for (int b : bytes) {
            String s = String.valueOf((char) b);
            faults("byte " + b + " alone", s, 0);
            faults("byte " + b + " behind blanks", "  " + s + BODY, 2);
            faults("byte " + b + " for a number", "body " + s + "1 1 1;", 5);
            faults("byte " + b + " behind a number", "body 1" + s + " 1 1;", 6);
            faults("byte " + b + " behind a word", "body" + s + " 1 1 1;", 4);
            faults("byte " + b + " behind an item", BODY + s, 11);
        }
        faults("byte 0 as the 400th", " ".repeat(399) + "\0", 399);
    }

    private static void endsTooEarly() {
        String[] tokens = {"branch", " 12", " 0", " 11", " 10", " wet", " nest"};
        StringBuilder text = new StringBuilder();
        for (String token : tokens) {
            text.append(token);
            String early = text.toString();
            faults("ends behind '" + early + "'", early, early.length());
            faults("ends behind '" + early + "' and blanks", early + "   ", early.length() + 3);
        }
        faults("ends behind nest without wet", "branch 1 0 1 1 nest", 19);
        String[] others = {"body", " 1", " 10", " 9"};
        text.setLength(0);
        text.append(BODY);
        for (String token : others) {
            text.append(token);
            String early = text.toString();
            faults("ends behind '" + early + "'", early, early.length());
        }
        faults("the word itself is cut", BODY + "bod", 11);
        faults("ends at 400 bytes", " ".repeat(390) + "body 1 1 1", 400);
        faults("ends at 400 bytes, blanks", "body" + " ".repeat(396), 400);
    }

    private static void faultsPlace() {
        faults("the place of the first byte", "x", 0);
        faults("the first of two faults", "body 0 100 1;", 5);
        faults("a fault ahead of an early end", "body 0", 5);
        faults("a fault in the last item", BODY.repeat(2) + "body 1 1 10;", 22 + 9);
        faults("the last byte of 400", " ".repeat(399) + "x", 399);
        faults("the first byte of a word that ends with the text", " ".repeat(396) + "nest", 396);
        faults("a long number's first byte", "body 1 " + "9".repeat(20) + " 1;", 7);
    }

    private static void textStays() {
        CHECK.test("a faulty text stays and can be gone on with", () -> {
            Caller x = typed("body 1 1");
            CHECK.same("too early", x.ask("tree"), -18);
            CHECK.same("the same again", x.ask("tree"), -18);
            CHECK.same("its bytes", x.ask("count 4"), 8);
            x.types(" 1;");
            CHECK.same("whole", x.ask("tree"), 1);
            CHECK.same("empty then", x.ask("count 4"), 0);
        });
        CHECK.test("a text is empty once it is read: the next tree is one of nothing", () -> {
            Caller x = typed("").tree(BRANCH + BODY);
            CHECK.same("tree", x.ask("tree"), 0);
            CHECK.same("branches", x.ask("count 0"), 0);
            CHECK.same("bodies", x.ask("count 1"), 0);
            CHECK.same("branch", x.ask("branch 0 0"), BAD);
            CHECK.same("body", x.ask("body 0 0"), BAD);
        });
        CHECK.test("after a fault the next tree has nothing of it", () -> {
            Caller x = typed(BRANCH.repeat(5) + BODY + "x");
            CHECK.same("fault", x.ask("tree"), -10 - 86);
            CHECK.same("no branches", x.ask("count 0"), 0);
            x.ask("clear");
            x.types("branch 2 2 2 2;");
            CHECK.same("tree", x.ask("tree"), 1);
            CHECK.same("branches", x.ask("count 0"), 1);
            CHECK.same("bodies", x.ask("count 1"), 0);
            CHECK.same("not wet", x.ask("branch 0 4"), 0);
        });
        CHECK.test("what was wet in the tree before is not in the next", () -> {
            Caller x = typed("").tree("branch 1 0 1 1 wet nest;").tree("branch 1 0 1 1;").tree("branch 1 0 1 1;");
            CHECK.same("wet", x.ask("branch 0 4"), 0);
            CHECK.same("nest", x.ask("branch 0 5"), 0);
        });
    }

    /** Body 1 has fallen and climbed, image 1 is kept, branch 1 is sawn, an afternoon is told. */
    private static Caller climbed() {
        return typed("").tree("branch 5 0 30 10;branch 9 0 10 0;body 9 20 9;body 9 20 9;")
            .with("goes 1;climb 0;climb 1;climb 0;keep 0;keep 1;sawn 2;afternoon 0 1 50;mark 1 0;tune 0 7;lot 1234");
    }

    private static void anew(String told, String call, long want) {
        CHECK.test("a tree read anew: " + told, () -> CHECK.same(call, climbed().tree(BRANCH + BODY).ask(call), want));
        CHECK.test("a tree of nothing read anew: " + told, () -> {
            long due = call.startsWith("dares") ? BAD : want;
            CHECK.same(call, climbed().tree("").ask(call), due);
        });
        CHECK.test("a fault leaves it: " + told, () -> {
            Caller x = climbed().types("x");
            x.ask("tree");
            CHECK.same(call, x.ask(call), climbed().ask(call));
        });
    }

    private static void treeAnew() {
        anew("the climb is body 0's", "now 0", 0);
        anew("on the ground", "now 1", -1);
        anew("hurt is 0", "now 2", 0);
        anew("top is 0", "now 3", 0);
        anew("no steps", "now 4", 0);
        anew("no falls", "now 5", 0);
        anew("nothing is sawn", "count 3", 0);
        anew("nothing is sawn", "sawn 0", 0);
        anew("no afternoons", "count 2", 0);
        anew("no afternoons", "dares 0 0 0 0", 0);
        anew("image 0 is gone", "back 0", STATE);
        anew("image 1 is gone", "back 1", STATE);
    }

    private static void treeAnewStays() {
        CHECK.test("what was there ahead of it", () -> {
            Caller x = climbed();
            long[] now = new long[6];
            for (int what = 0; what < 6; what++) {
                now[what] = x.ask("now " + what);
            }
            CHECK.row("now", now, 1, 0, 15, 5, 2, 1);
        });
        anew("the lot stays", "lot 0", 1234);
        anew("the trace stays", "trace", 11);
        anew("the tunes stay", "tune 0 1", 7);
        CHECK.test("40 afternoons are room again", () -> {
            Caller x = typed("").tree(BODY).times(40, "afternoon 0 0 0");
            CHECK.same("full", x.ask("afternoon 0 0 0"), FULL);
            CHECK.same("the first", x.tree(BODY).ask("afternoon 0 0 0"), 1);
        });
        CHECK.test("an image can be kept again", () -> {
            Caller x = climbed().tree(BODY);
            CHECK.same("keep", x.ask("keep 1"), 0);
            CHECK.same("back", x.ask("back 1"), 0);
            CHECK.same("the other is gone", x.ask("back 0"), STATE);
        });
    }
}
