/** The promises one by one: what is ordinary, the edges that the document names, what is refused. */
public final class PromisesTest {
    private static final int NONE = EvenTrees.NONE;
    private static final int[] NO_PLACES = {-1, 6, Integer.MAX_VALUE, Integer.MIN_VALUE};
    private static final int[] NO_NUMBERS = {-1000, 1000, Integer.MAX_VALUE, Integer.MIN_VALUE};

    private final Check check = new Check();
    private EvenTrees x = new EvenTrees();

    public static void main(String[] args) {
        PromisesTest test = new PromisesTest();
        test.rowsThatAreMade();
        test.bothEnds();
        test.rowsTogether();
        test.heaps();
        test.whatIsAsked();
        test.check.finish("PromisesTest");
    }

    /** A new object for the promise. PLACE 5 stays empty unless the promise fills it. */
    private void promise(int number, String name) {
        check.part("promise " + number + ", " + name);
        x = new EvenTrees();
    }

    private void due(String call, long got, long want) {
        check.due(call, got, want);
    }

    /** Gives the ROW one number, 7, so that a call that changes it is seen. */
    private void markRow() {
        Check.tells(x, 5, "7");
        x.first(5, 5);
    }

    private void rowIsMarked(String call) {
        check.row(call, x, 7);
    }

    private void rowsThatAreMade() {
        p1();
        p2();
        p3();
        p4();
        p5();
        p5Refused();
        p6();
        p7();
        p8();
        p9();
    }

    private void bothEnds() {
        p10();
        p11();
        p12();
        p13();
        p14();
        p15();
        p16();
        p17();
        p18();
    }

    private void rowsTogether() {
        p19();
        p20();
        p21();
        p22();
        p23();
        p24();
        p25();
        p26();
        p27();
        p28();
        p29();
        p30();
        p31();
    }

    private void heaps() {
        p32();
        p33();
        p34();
        p35();
    }

    private void whatIsAsked() {
        p36();
        p37();
        p38();
        p39();
        p40();
        p41();
        p42();
        p43();
        p44();
        p45();
        p46();
        p47();
        p48();
        p49();
        p50();
        p51();
        p52();
        againAndAgain();
    }

    private void p1() {
        promise(1, "a new object");
        due("count(0)", x.count(0), 0);
        due("count(1)", x.count(1), 0);
        due("count(2)", x.count(2), 0);
        due("count(3)", x.count(3), 0);
        for (int i = 0; i < 6; i++) {
            due("size", x.size(i), 0);
            check.row("size", x, 1, NONE);
        }
        EvenTrees another = new EvenTrees();
        another.fills(3, 1, 0);
        due("objects are apart", x.count(0) + x.count(1), 0);
    }

    private void p2() {
        promise(2, "sign");
        due("highest byte first", x.sign('1' << 24 | ',' << 16 | '-' << 8 | '2'), 4);
        due("tells", x.tells(0), 2);
        check.has("tells", x, 0, 1, -2);
        for (int n = 4; n <= 200; n += 4) {
            due("sign", x.sign(0x31313131), n);
        }
        due("more than 200", x.sign(0), NONE);
        due("count(3)", x.count(3), 200);
        x.end(197);
        due("201", x.sign(0), NONE);
        due("count(3)", x.count(3), 197);
        x.end(196);
        due("200 again", x.sign(-1), 200);
        promise(2, "sign, a byte above 127");
        x.sign(0xFF000000 | '1' << 16 | '1' << 8 | '1');
        due("tells", x.tells(0), -2000);
    }

    private void p3() {
        promise(3, "end");
        check.holds("end(0) of none", x.end(0));
        check.holds("end(1) of none", !x.end(1));
        Check.text(x, "12345678");
        check.holds("below 0", !x.end(-1));
        check.holds("more than there are", !x.end(9));
        check.holds("least int", !x.end(Integer.MIN_VALUE));
        due("count(3)", x.count(3), 8);
        check.holds("all", x.end(8));
        check.holds("three", x.end(3));
        due("count(3)", x.count(3), 3);
        check.holds("what was cut is gone", !x.end(4));
        x.tells(0);
        due("first signs", x.get(0, 0), 123);
    }

    private void p4() {
        promise(4, "tells");
        due("row", Check.tells(x, 0, "5,-3,007,-0,999,-999"), 6);
        check.has("row", x, 0, 5, -3, 7, 0, 999, -999);
        due("read text is gone", x.count(3), 0);
        due("new NODES", x.count(1), 6);
        due("one", Check.tells(x, 1, "-12"), 1);
        due("empty", Check.tells(x, 1, ""), 0);
        due("empty now", x.count(0), 1);
        String[] wrong = {",", "-", "1,", "1,,2", "--1", "1234", "1,-", "1-2", "1 ,2", "a", "1,2x", "-1,1000"};
        int[] at = {0, 1, 2, 2, 1, 3, 3, 1, 1, 0, 3, 6};
        markRow();
        int made = x.count(1);
        for (int i = 0; i < wrong.length; i++) {
            due(wrong[i], Check.tells(x, 0, wrong[i]), -2000 - at[i]);
            due("emptied", x.count(3), 0);
            due(wrong[i] + ", no such PLACE", Check.tells(x, 6, wrong[i]), -2000 - at[i]);
        }
        for (int k : NO_PLACES) {
            due("no such PLACE", Check.tells(x, k, "1,2"), NONE);
            due("emptied", x.count(3), 0);
        }
        due("nothing MADE", x.count(1), made);
        check.has("as it was", x, 0, 5, -3, 7, 0, 999, -999);
        rowIsMarked("refused");
        StringBuilder longest = new StringBuilder("1");
        for (int i = 1; i < 100; i++) {
            longest.append(",").append(i % 10);
        }
        due("100 NUMBERS", Check.tells(x, 2, longest.toString()), 100);
        due("the last", x.get(2, 99), 9);
        due("200 signs, too early", Check.tells(x, 2, longest + ","), -2200);
    }

    private void p5() {
        promise(5, "grows");
        due("tree", Check.grows(x, 0, "(1(-2(4..).)(003..))"), 4);
        check.has("tree", x, 0, 1, -2, 3, 4);
        due("new NODES", x.count(1), 4);
        due("empty", Check.grows(x, 0, "."), 0);
        due("empty now", x.count(0), 0);
        due("one", Check.grows(x, 0, "(-999..)"), 1);
        due("value", x.get(0, 0), -999);
        StringBuilder deepest = new StringBuilder();
        for (int i = 0; i < 100; i++) {
            deepest.append("(1");
        }
        due("200 signs deep", Check.grows(x, 0, deepest.toString()), -2200);
        StringBuilder chain = new StringBuilder(".");
        for (int i = 0; i < 49; i++) {
            chain.insert(0, "(1").append(".)");
        }
        markRow();
        int made = x.count(1);
        due("a chain of 49", Check.grows(x, 0, chain.toString()), -2);
        check.row("a chain of 49", x, 0, 48, 0);
        due("RIGHT has more", Check.grows(x, 0, "(1.(2..))"), -2);
        check.row("RIGHT has more", x, 0, 0, 1);
        due("the first along it", Check.grows(x, 0, "(1(22(4..)(5..))(3.(6..)))"), -2);
        check.row("the first along it", x, 16, 0, 1);
        due("below one that is EVEN", Check.grows(x, 0, "(1(2(3(4..).).)(5(6..)(7..)))"), -2);
        check.row("below one that is EVEN", x, 2, 2, 0);
        due("nothing MADE", x.count(1), made);
        check.has("as it was", x, 0, -999);
    }

    private void p5Refused() {
        promise(5, "grows, refused");
        markRow();
        String[] wrong = {"", ")", "(", "(-", "(-.", "(.", "(1", "(1.", "(1..", "(1..).", "..", "(1..))", "(1234..)",
            "(12 ..)", "(1(2..)", "(1...)", "1", "(--1..)", "(1.(2.(3..)).)"};
        int[] at = {0, 0, 1, 2, 2, 1, 2, 3, 4, 5, 1, 5, 4, 3, 7, 4, 0, 2, 12};
        for (int i = 0; i < wrong.length; i++) {
            due(wrong[i], Check.grows(x, 0, wrong[i]), -2000 - at[i]);
            due(wrong[i] + ", no such PLACE", Check.grows(x, -1, wrong[i]), -2000 - at[i]);
            due("emptied", x.count(3), 0);
        }
        for (int k : NO_PLACES) {
            due("no such PLACE", Check.grows(x, k, "(1..)"), NONE);
            due("not EVEN, no such PLACE", Check.grows(x, k, "(1.(1..))"), NONE);
            due("emptied", x.count(3), 0);
        }
        due("nothing MADE", x.count(1), 1);
        due("nothing kept", x.count(0), 0);
        rowIsMarked("refused");
        due("grows", Check.grows(x, 0, "(1..)"), 1);
        rowIsMarked("no ROW told");
    }

    private void p6() {
        promise(6, "fills");
        due("none", x.fills(0, 4, 0), 1);
        due("none kept", x.count(0), 0);
        due("one", x.fills(1, 4, 0), 3);
        check.has("one", x, 0, 4);
        due("five", x.fills(5, -999, 0), 5);
        check.has("five", x, 0, -999, -999, -999, -999, -999);
        due("five: unlike NODES", x.own(0), 3);
        due("255", x.fills(255, 999, 1), 17);
        due("255: unlike NODES", x.own(1), 8);
        due("255: SIZE", x.size(1), 255);
        due("254", x.fills(254, 1, 2), 15);
        due("254: unlike NODES", x.own(2), 14);
        for (int n = 0; n <= 255; n++) {
            x.fills(n, 3, 0);
            due("SIZE", x.size(0), n);
        }
        int made = x.count(1);
        due("below 0", x.fills(-1, 1, 0), NONE);
        due("above 255", x.fills(256, 1, 0), NONE);
        for (int k : NO_PLACES) {
            due("no such PLACE", x.fills(3, 1, k), NONE);
        }
        for (int v : NO_NUMBERS) {
            due("no such NUMBER", x.fills(3, v, 0), NONE);
        }
        due("nothing MADE", x.count(1), made);
        due("as it was", x.size(0), 255);
    }

    private void p7() {
        promise(7, "copies");
        Check.tells(x, 0, "1,2,3");
        due("copy", x.copies(0, 1), 3);
        check.has("copy", x, 1, 1, 2, 3);
        due("nothing MADE", x.count(1), 3);
        due("the same NODES", x.nodes(), 3);
        due("upon itself", x.copies(0, 0), 3);
        due("empty", x.copies(4, 1), 0);
        due("empty now", x.count(0), 1);
        for (int k : NO_PLACES) {
            due("no such PLACE", x.copies(0, k), NONE);
            due("no such PLACE", x.copies(k, 0), NONE);
        }
    }

    private void p8() {
        promise(8, "sides");
        markRow();
        Check.tells(x, 0, "0,1,2,3,4,5");
        due("LEFT", x.sides(0, 0, 1), 3);
        check.has("LEFT", x, 1, 1, 3, 5);
        due("RIGHT", x.sides(0, 1, 2), 2);
        check.has("RIGHT", x, 2, 2, 4);
        due("nothing MADE", x.count(1), 7);
        due("the same NODES", x.nodes(), 6);
        check.row("the same NODES", x, 5, 11);
        markRow();
        due("upon itself", x.sides(2, 0, 2), 1);
        check.has("upon itself", x, 2, 4);
        due("LEFT of one", x.sides(2, 0, 0), -2);
        due("RIGHT of one", x.sides(2, 1, 0), -2);
        due("of none", x.sides(5, 0, 0), -2);
        Check.tells(x, 2, "8,9");
        due("RIGHT of two", x.sides(2, 1, 0), -2);
        check.has("as it was", x, 0, 0, 1, 2, 3, 4, 5);
        due("another side", x.sides(0, 2, 1), NONE);
        due("another side, of none", x.sides(5, -1, 1), NONE);
        for (int k : NO_PLACES) {
            due("no such PLACE", x.sides(0, 0, k), NONE);
            due("no such PLACE, and none", x.sides(5, 0, k), NONE);
            due("no such PLACE", x.sides(k, 0, 0), NONE);
        }
        rowIsMarked("no ROW told");
    }

    private void p9() {
        promise(9, "roots");
        Check.tells(x, 0, "1,2");
        Check.tells(x, 1, "3");
        due("one more", x.roots(-9, 0, 1, 2), 4);
        check.has("one more", x, 2, -9, 1, 3, 2);
        due("one NODE", x.count(1), 4);
        due("shared", x.same(0, 2), 0);
        check.row("shared", x, 0, 2);
        due("alike", x.roots(5, 0, 0, 2), 5);
        check.has("alike", x, 2, 5, 1, 1, 2, 2);
        due("of none", x.roots(5, 4, 4, 3), 1);
        check.has("of none", x, 3, 5);
        due("RIGHT has more", x.roots(5, 1, 0, 3), -2);
        due("two more", x.roots(5, 0, 4, 3), -2);
        x.fills(127, 1, 3);
        x.fills(128, 1, 4);
        due("255", x.roots(999, 3, 3, 5), 255);
        due("256", x.roots(999, 4, 3, 5), -3);
        due("as it was", x.size(5), 255);
        due("257", x.roots(999, 4, 4, 5), -3);
        due("-2 first", x.roots(999, 3, 4, 5), -2);
        due("-2 first", x.roots(999, 5, 0, 5), -2);
        for (int k : NO_PLACES) {
            due("no such PLACE", x.roots(1, k, 1, 2), NONE);
            due("no such PLACE", x.roots(1, 0, k, 2), NONE);
            due("no such PLACE", x.roots(1, 1, 0, k), NONE);
        }
        for (int v : NO_NUMBERS) {
            due("no such NUMBER", x.roots(v, 1, 0, 2), NONE);
        }
    }

    private void p10() {
        promise(10, "size");
        due("none", x.size(0), 0);
        check.row("none", x, 1, NONE);
        Check.tells(x, 0, "1");
        due("one", x.size(0), 1);
        check.row("one", x, 3, 0);
        Check.tells(x, 0, "1,2");
        due("two", x.size(0), 2);
        check.row("two", x, 3, 1);
        Check.tells(x, 0, "5,3,8,1,9");
        due("five", x.size(0), 5);
        check.row("five", x, 6, 2);
        x.fills(255, 0, 0);
        due("255", x.size(0), 255);
        // 9 COUNTS; MORES of perfect TREES: 8 + 7 + .. + 1.
        check.row("255", x, 45, 7);
        x.fills(254, 0, 0);
        due("254", x.size(0), 254);
        // 8 COUNTS; MORES: 7 + 6 + .. + 1.
        check.row("254", x, 36, 7);
        for (int i : NO_PLACES) {
            due("no such PLACE", x.size(i), NONE);
        }
        check.row("refused", x, 36, 7);
    }

    private void p11() {
        promise(11, "get");
        Check.grows(x, 0, "(0(1(3(7..).)(5..))(2(4..)(6..)))");
        check.has("by INDEX", x, 0, 0, 1, 2, 3, 4, 5, 6, 7);
        due("below 0", x.get(0, -1), -1000);
        due("SIZE", x.get(0, 8), -1000);
        due("least int", x.get(0, Integer.MIN_VALUE), -1000);
        due("of none", x.get(1, 0), -1000);
        for (int i : NO_PLACES) {
            due("no such PLACE", x.get(i, 0), -1000);
        }
        Check.rising(x, 1, -127, 255);
        for (int index = 0; index < 255; index++) {
            due("of 255", x.get(1, index), index - 127);
        }
    }

    private void p12() {
        promise(12, "path");
        x.fills(255, 0, 0);
        int[] ways = {0, 0, 1, 0, 2, 1, 3, 0, 4, 2, 6, 1, 5, 3, 7, 0};
        int[] depths = {0, 1, 1, 2, 2, 2, 2, 3, 3, 3, 3, 3, 3, 3, 3, 4};
        for (int index = 0; index < ways.length; index++) {
            due("path to " + index, x.path(0, index), ways[index]);
            check.row("path to " + index, x, depths[index]);
        }
        due("path to 254", x.path(0, 254), 127);
        due("path to 128", x.path(0, 128), 64);
        check.row("path to 128", x, 7);
        markRow();
        due("SIZE", x.path(0, 255), NONE);
        due("below 0", x.path(0, -1), NONE);
        due("of none", x.path(5, 0), NONE);
        for (int i : NO_PLACES) {
            due("no such PLACE", x.path(i, 0), NONE);
        }
        rowIsMarked("refused");
    }

    private void p13() {
        promise(13, "sets");
        Check.tells(x, 0, "0,1,2,3,4,5");
        due("deep", x.sets(0, 5, -7, 1), 3);
        check.has("deep", x, 1, 0, 1, 2, 3, 4, -7);
        check.has("as it was", x, 0, 0, 1, 2, 3, 4, 5);
        x.same(0, 1);
        check.row("shared", x, 5, 3);
        due("root", x.sets(0, 0, 9, 1), 1);
        due("RIGHT", x.sets(0, 2, 9, 1), 2);
        int made = x.count(1);
        due("it is so", x.sets(0, 3, 3, 1), 0);
        x.same(0, 1);
        check.row("it is so", x, NONE, 6);
        due("SIZE", x.sets(0, 6, 1, 1), NONE);
        due("below 0", x.sets(0, -1, 1, 1), NONE);
        for (int i : NO_PLACES) {
            due("no such PLACE", x.sets(i, 0, 1, 1), NONE);
            due("no such PLACE", x.sets(0, 0, 1, i), NONE);
        }
        for (int v : NO_NUMBERS) {
            due("no such NUMBER", x.sets(0, 0, v, 1), NONE);
        }
        due("nothing MADE", x.count(1), made);
        x.fills(3, 4, 2);
        due("one of two that are one NODE", x.sets(2, 1, 5, 2), 2);
        check.has("one of two that are one NODE", x, 2, 4, 5, 4);
    }

    private void p14() {
        promise(14, "front");
        due("upon none", x.front(0, 4, 0), 1);
        check.has("upon none", x, 0, 4);
        due("upon one", x.front(0, 3, 0), 2);
        check.has("upon one", x, 0, 3, 4);
        Check.tells(x, 0, "5,3,8,1,9");
        due("upon five", x.front(0, 7, 1), 3);
        check.has("upon five", x, 1, 7, 5, 3, 8, 1, 9);
        x.same(0, 1);
        check.row("shared", x, 0, 3);
        putRefused("front");
    }

    private int put(String how, int i, int v, int k) {
        return how.equals("front") ? x.front(i, v, k) : how.equals("back") ? x.back(i, v, k) : x.push(i, v, k);
    }

    private void putRefused(String how) {
        markRow();
        Check.rising(x, 2, 0, 254);
        int made = x.count(1);
        due("upon 254", put(how, 2, 500, 3), 8);
        due("upon 255", put(how, 3, 1, 4), -2);
        for (int i : NO_PLACES) {
            due("no such PLACE", put(how, i, 1, 1), NONE);
            due("no such PLACE", put(how, 3, 1, i), NONE);
        }
        for (int v : NO_NUMBERS) {
            due("no such NUMBER", put(how, 3, v, 1), NONE);
        }
        due("count(1)", x.count(1), made + 8);
        due("as it was", x.size(4), 0);
        markRow();
        put(how, 3, 1, 4);
        rowIsMarked("no ROW told");
    }

    private void p15() {
        promise(15, "back");
        due("upon none", x.back(0, 4, 0), 1);
        due("upon one", x.back(0, 3, 0), 2);
        check.has("upon one", x, 0, 4, 3);
        Check.tells(x, 0, "5,3,8,1,9");
        due("upon five", x.back(0, 7, 1), 3);
        check.has("upon five", x, 1, 5, 3, 8, 1, 9, 7);
        x.same(0, 1);
        check.row("shared", x, 5, 3);
        putRefused("back");
    }

    private void p16() {
        promise(16, "first");
        Check.tells(x, 0, "7,5,3,8,1,9");
        due("of six", x.first(0, 1), 2);
        check.row("of six", x, 7);
        check.has("of six", x, 1, 5, 3, 8, 1, 9);
        x.same(0, 1);
        check.row("shared", x, 0, 3);
        due("upon itself", x.first(1, 1), 2);
        check.row("upon itself", x, 5);
        check.has("upon itself", x, 1, 3, 8, 1, 9);
        Check.tells(x, 2, "-4");
        due("of one", x.first(2, 1), 0);
        check.row("of one", x, -4);
        due("empty now", x.count(0), 5);
        takenRefused(true);
        x.fills(255, 3, 0);
        due("of 255", x.first(0, 0), 7);
    }

    private void takenRefused(boolean ahead) {
        markRow();
        due("of none", ahead ? x.first(5, 0) : x.last(5, 0), -2);
        for (int i : NO_PLACES) {
            due("no such PLACE", ahead ? x.first(i, 0) : x.last(i, 0), NONE);
            due("no such PLACE, and none", ahead ? x.first(5, i) : x.last(5, i), NONE);
            due("no such PLACE", ahead ? x.first(0, i) : x.last(0, i), NONE);
        }
        rowIsMarked("refused");
        check.has("as it was", x, 0, 7, 5, 3, 8, 1, 9);
    }

    private void p17() {
        promise(17, "last");
        Check.tells(x, 0, "7,5,3,8,1,9");
        due("of six", x.last(0, 1), 2);
        check.row("of six", x, 9);
        check.has("of six", x, 1, 7, 5, 3, 8, 1);
        x.same(0, 1);
        check.row("shared", x, 5, 3);
        due("upon itself", x.last(1, 1), 2);
        check.has("upon itself", x, 1, 7, 5, 3, 8);
        Check.tells(x, 2, "-4");
        due("of one", x.last(2, 1), 0);
        check.row("of one", x, -4);
        due("empty now", x.count(0), 5);
        takenRefused(false);
        x.fills(255, 3, 0);
        due("of 255", x.last(0, 0), 7);
    }

    private void p18() {
        promise(18, "adds");
        Check.tells(x, 0, "0,1,2,990,-990,5");
        due("some", x.adds(0, 1, 4, 20, 1), 4);
        check.has("some", x, 1, 0, 21, 22, 999, -990, 5);
        due("down", x.adds(0, 4, 5, -20, 1), 3);
        check.has("down", x, 1, 0, 1, 2, 990, -999, 5);
        due("least v", x.adds(0, 0, 2, -999, 1), 2);
        check.has("least v", x, 1, -999, -998, 2, 990, -990, 5);
        due("greatest v", x.adds(0, 4, 6, 999, 1), 5);
        check.has("greatest v", x, 1, 0, 1, 2, 990, 9, 999);
        due("all", x.adds(0, 0, 6, 1, 1), 6);
        due("at the edge", x.adds(1, 0, 6, 999, 1), 6);
        due("at the edge, all the same", x.adds(1, 3, 4, 1, 1), 3);
        due("no more", x.adds(0, 0, 6, 0, 1), 0);
        x.same(0, 1);
        check.row("no more: as it is", x, NONE, 6);
        due("none of them", x.adds(0, 6, 6, 5, 1), 0);
        x.same(0, 1);
        check.row("none of them: as it is", x, NONE, 6);
        due("of none", x.adds(5, 0, 0, 5, 4), 0);
        int made = x.count(1);
        due("l below 0", x.adds(0, -1, 2, 1, 1), NONE);
        due("r below l", x.adds(0, 3, 2, 1, 1), NONE);
        due("r above SIZE", x.adds(0, 3, 7, 1, 1), NONE);
        for (int i : NO_PLACES) {
            due("no such PLACE", x.adds(i, 0, 0, 1, 1), NONE);
            due("no such PLACE", x.adds(0, 0, 0, 1, i), NONE);
        }
        for (int v : NO_NUMBERS) {
            due("no such NUMBER", x.adds(0, 0, 1, v, 1), NONE);
        }
        due("nothing MADE", x.count(1), made);
        x.fills(3, 1, 2);
        due("two that are one NODE", x.adds(2, 1, 3, 1, 2), 3);
        due("two that were one NODE", x.own(2), 3);
    }

    private void p19() {
        promise(19, "appends");
        markRow();
        Check.tells(x, 0, "1,2,3");
        Check.tells(x, 1, "4,5");
        due("two upon three", x.appends(0, 1, 2), 6);
        check.has("two upon three", x, 2, 1, 2, 3, 4, 5);
        due("upon itself", x.appends(0, 0, 0), 9);
        check.has("upon itself", x, 0, 1, 2, 3, 1, 2, 3);
        due("none", x.appends(0, 5, 3), 0);
        x.same(0, 3);
        check.row("none: as it is", x, NONE, 6);
        due("upon none", x.appends(5, 1, 3), 3);
        x.fills(128, 1, 3);
        x.fills(127, 2, 4);
        due("255", x.appends(3, 4, 2), 127 * 8);
        due("SIZE", x.size(2), 255);
        markRow();
        due("256", x.appends(3, 3, 2), -2);
        due("as it was", x.get(2, 254), 2);
        for (int i : NO_PLACES) {
            due("no such PLACE", x.appends(i, 3, 2), NONE);
            due("no such PLACE", x.appends(3, i, 2), NONE);
            due("no such PLACE", x.appends(3, 3, i), NONE);
        }
        rowIsMarked("no ROW told");
    }

    private void p20() {
        promise(20, "turned");
        markRow();
        Check.tells(x, 0, "3,5,8,8,11,13");
        due("twice", x.turned(0, 2, 1), 10);
        check.has("twice", x, 1, 8, 8, 11, 13, 3, 5);
        due("no times", x.turned(0, 0, 1), 0);
        check.has("no times", x, 1, 3, 5, 8, 8, 11, 13);
        due("all round", x.turned(0, 6, 1), 30);
        check.has("all round", x, 1, 3, 5, 8, 8, 11, 13);
        Check.tells(x, 2, "4");
        due("one", x.turned(2, 3, 2), 3);
        check.has("one", x, 2, 4);
        due("none", x.turned(5, 1, 3), -2);
        due("none, no times", x.turned(5, 0, 3), -2);
        due("below 0", x.turned(5, -1, 3), NONE);
        due("above 255", x.turned(0, 256, 3), NONE);
        for (int i : NO_PLACES) {
            due("no such PLACE", x.turned(i, 1, 3), NONE);
            due("no such PLACE", x.turned(5, 1, i), NONE);
        }
        rowIsMarked("no ROW told");
        Check.rising(x, 3, 0, 255);
        due("255 times", x.turned(3, 255, 4), 255 * 15);
        due("255 times", x.same(3, 4), 1);
        check.row("255 times", x, NONE, 0);
        for (int i = 0; i < 450; i++) {
            x.turned(4, 254, 4);
        }
        due("again and again", x.get(4, 0), 255 - 450 % 255);
        for (int index = 0; index < 255; index++) {
            due("other PLACES stay", x.get(3, index), index);
        }
        check.has("other PLACES stay", x, 0, 3, 5, 8, 8, 11, 13);
        check.has("other PLACES stay", x, 1, 3, 5, 8, 8, 11, 13);
        check.has("other PLACES stay", x, 2, 4);
        due("NODES of all", x.nodes(), 255 + 255 + 6 + 6 + 1);
        check.row("NODES of all", x, 0, 255 + 255 + 6 + 6 + 1);
    }

    private void p21() {
        promise(21, "reverses");
        Check.tells(x, 0, "1,2,3,4");
        due("four", x.reverses(0, 1), 4);
        check.has("four", x, 1, 4, 3, 2, 1);
        due("BUILT", x.count(1), 8);
        due("upon itself", x.reverses(1, 1), 4);
        check.has("upon itself", x, 1, 1, 2, 3, 4);
        x.same(0, 1);
        check.row("new NODES", x, NONE, 0);
        due("none", x.reverses(5, 1), 0);
        due("empty now", x.count(0), 1);
        for (int i : NO_PLACES) {
            due("no such PLACE", x.reverses(i, 1), NONE);
            due("no such PLACE", x.reverses(0, i), NONE);
        }
    }

    private void p22() {
        promise(22, "keeps");
        markRow();
        Check.tells(x, 0, "0,1,2,3,4,5");
        due("all", x.keeps(0, 6, 1), 0);
        x.same(0, 1);
        check.row("all: as it is", x, NONE, 6);
        due("two", x.keeps(0, 2, 1), 2 + 2 + 2 + 1);
        check.has("two", x, 1, 0, 1);
        due("none", x.keeps(0, 0, 1), 8);
        due("empty now", x.count(0), 1);
        due("of none", x.keeps(5, 0, 1), 0);
        markRow();
        due("below 0", x.keeps(0, -1, 1), NONE);
        due("above SIZE", x.keeps(0, 7, 1), NONE);
        for (int i : NO_PLACES) {
            due("no such PLACE", x.keeps(i, 0, 1), NONE);
            due("no such PLACE", x.keeps(0, 0, i), NONE);
        }
        rowIsMarked("no ROW told");
    }

    private void p23() {
        promise(23, "skips");
        markRow();
        Check.tells(x, 0, "0,1,2,3,4,5");
        due("no times", x.skips(0, 0, 1), 0);
        x.same(0, 1);
        check.row("no times: as it is", x, NONE, 6);
        due("four", x.skips(0, 4, 1), 2 + 2 + 2 + 1);
        check.has("four", x, 1, 4, 5);
        due("all", x.skips(0, 6, 1), 8);
        due("empty now", x.count(0), 1);
        due("of none", x.skips(5, 0, 1), 0);
        markRow();
        due("below 0", x.skips(0, -1, 1), NONE);
        due("above SIZE", x.skips(0, 7, 1), NONE);
        for (int i : NO_PLACES) {
            due("no such PLACE", x.skips(i, 0, 1), NONE);
            due("no such PLACE", x.skips(0, 0, i), NONE);
        }
        rowIsMarked("no ROW told");
    }

    private void p24() {
        promise(24, "slips");
        Check.tells(x, 0, "1,2,3");
        due("within", x.slips(0, 1, 9, 1), 4);
        check.has("within", x, 1, 1, 9, 2, 3);
        due("ahead", x.slips(0, 0, 9, 1), 4);
        check.has("ahead", x, 1, 9, 1, 2, 3);
        due("behind", x.slips(0, 3, 9, 1), 4);
        check.has("behind", x, 1, 1, 2, 3, 9);
        due("BUILT", x.count(1), 3 + 12);
        due("into none", x.slips(5, 0, 9, 1), 1);
        x.fills(255, 0, 2);
        due("into 255", x.slips(2, 255, 9, 1), -2);
        due("into 255, no such INDEX", x.slips(2, 256, 9, 1), NONE);
        due("above SIZE", x.slips(0, 4, 9, 1), NONE);
        due("below 0", x.slips(0, -1, 9, 1), NONE);
        for (int i : NO_PLACES) {
            due("no such PLACE", x.slips(i, 0, 9, 1), NONE);
            due("no such PLACE", x.slips(2, 0, 9, i), NONE);
        }
        for (int v : NO_NUMBERS) {
            due("no such NUMBER", x.slips(2, 0, v, 1), NONE);
        }
        x.fills(254, 0, 2);
        due("into 254", x.slips(2, 254, 9, 2), 255);
        due("into 254", x.get(2, 254), 9);
    }

    private void p25() {
        promise(25, "swaps");
        Check.tells(x, 0, "0,1,2,3,4,1");
        due("two", x.swaps(0, 3, 4, 1), 5);
        check.has("two", x, 1, 0, 1, 2, 4, 3, 1);
        due("on one way", x.swaps(0, 5, 0, 1), 3);
        check.has("on one way", x, 1, 1, 1, 2, 3, 4, 0);
        due("alike", x.swaps(0, 1, 5, 1), 0);
        x.same(0, 1);
        check.row("alike: as it is", x, NONE, 6);
        due("one", x.swaps(0, 2, 2, 1), 0);
        due("SIZE", x.swaps(0, 6, 0, 1), NONE);
        due("SIZE", x.swaps(0, 0, 6, 1), NONE);
        due("below 0", x.swaps(0, -1, 0, 1), NONE);
        due("below 0", x.swaps(0, 0, -1, 1), NONE);
        due("of none", x.swaps(5, 0, 0, 1), NONE);
        for (int i : NO_PLACES) {
            due("no such PLACE", x.swaps(i, 0, 1, 1), NONE);
            due("no such PLACE", x.swaps(0, 0, 1, i), NONE);
        }
    }

    private void p26() {
        promise(26, "zips");
        Check.tells(x, 0, "5,-3,900,-900");
        Check.tells(x, 1, "2,4,100,100,6");
        due("sum", x.zips(0, 1, 0, 2), 4);
        check.has("sum", x, 2, 7, 1, 999, -800);
        due("difference", x.zips(0, 1, 1, 2), 4);
        check.has("difference", x, 2, 3, -7, 800, -999);
        due("lesser", x.zips(0, 1, 2, 2), 4);
        check.has("lesser", x, 2, 2, -3, 100, -900);
        due("greater", x.zips(0, 1, 3, 2), 4);
        check.has("greater", x, 2, 5, 4, 900, 100);
        due("BUILT", x.count(1), 9 + 16);
        due("the other way", x.zips(1, 0, 1, 1), 4);
        check.has("the other way", x, 1, -3, 7, -800, 999);
        due("with none", x.zips(0, 5, 0, 2), 0);
        due("empty now", x.count(0), 3);
        due("another what", x.zips(0, 1, 4, 2), NONE);
        due("another what", x.zips(0, 1, -1, 2), NONE);
        for (int i : NO_PLACES) {
            due("no such PLACE", x.zips(i, 1, 0, 2), NONE);
            due("no such PLACE", x.zips(0, i, 0, 2), NONE);
            due("no such PLACE", x.zips(0, 1, 0, i), NONE);
        }
    }

    private void p27() {
        promise(27, "parts");
        Check.tells(x, 0, "0,1,2,3,4,5");
        due("two and four", x.parts(0, 2, 1, 2), 7 + 4);
        check.has("two", x, 1, 0, 1);
        check.has("four", x, 2, 2, 3, 4, 5);
        due("k is i", x.parts(0, 4, 0, 3), 4 + 7);
        check.has("k is i", x, 0, 0, 1, 2, 3);
        check.has("as it was", x, 3, 4, 5);
        due("l is i", x.parts(0, 0, 3, 0), 2 + 1 + 1);
        check.has("l is i", x, 0, 0, 1, 2, 3);
        due("empty now", x.count(0), 1 | 2 | 4);
        due("all", x.parts(0, 4, 3, 4), 2 + 1 + 1);
        due("of none", x.parts(5, 0, 3, 4), 0);
        due("one PLACE", x.parts(0, 1, 3, 3), -2);
        due("one PLACE, n below 0", x.parts(0, -1, 3, 3), NONE);
        due("above SIZE", x.parts(0, 5, 3, 3), NONE);
        for (int i : NO_PLACES) {
            due("no such PLACE", x.parts(i, 0, 3, 4), NONE);
            due("no such PLACE", x.parts(0, 0, i, 4), NONE);
            due("no such PLACE", x.parts(0, 0, 3, i), NONE);
            due("no such PLACE, one", x.parts(0, 0, i, i), NONE);
        }
        check.has("as it was", x, 0, 0, 1, 2, 3);
    }

    private void p28() {
        promise(28, "sorts");
        Check.tells(x, 0, "3,-1,2,999,-999,2");
        due("six", x.sorts(0, 1), 6);
        check.row("six", x, 4);
        check.has("six", x, 1, -999, -1, 2, 2, 3, 999);
        due("BUILT", x.count(1), 12);
        due("rising", x.sorts(1, 1), 6);
        check.row("rising", x, 0);
        due("BUILT", x.count(1), 18);
        due("none", x.sorts(5, 1), 0);
        check.row("none", x, 0);
        due("empty now", x.count(0), 1);
        markRow();
        for (int i : NO_PLACES) {
            due("no such PLACE", x.sorts(i, 1), NONE);
            due("no such PLACE", x.sorts(0, i), NONE);
        }
        rowIsMarked("refused");
    }

    private void p29() {
        promise(29, "merges");
        Check.tells(x, 0, "3,5,8");
        Check.tells(x, 1, "4,5,9,10");
        due("rising", x.merges(0, 1, 2), 7);
        check.has("rising", x, 2, 3, 4, 5, 5, 8, 9, 10);
        due("BUILT", x.count(1), 14);
        Check.tells(x, 0, "5,1,7");
        Check.tells(x, 1, "5,0");
        due("not rising", x.merges(0, 1, 2), 5);
        check.has("not rising", x, 2, 5, 1, 5, 0, 7);
        due("not rising", x.merges(1, 0, 2), 5);
        check.has("not rising", x, 2, 5, 0, 5, 1, 7);
        due("with none", x.merges(5, 1, 2), 2);
        check.has("with none", x, 2, 5, 0);
        due("with itself", x.merges(1, 1, 1), 4);
        check.has("with itself", x, 1, 5, 0, 5, 0);
        x.fills(128, 1, 3);
        x.fills(127, 2, 4);
        due("255", x.merges(4, 3, 2), 255);
        due("the lesser first", x.get(2, 127) * 10 + x.get(2, 128), 12);
        due("256", x.merges(3, 3, 0), -2);
        check.has("as it was", x, 0, 5, 1, 7);
        for (int i : NO_PLACES) {
            due("no such PLACE", x.merges(i, 3, 2), NONE);
            due("no such PLACE", x.merges(3, i, 2), NONE);
            due("no such PLACE", x.merges(3, 3, i), NONE);
        }
    }

    private void p30() {
        promise(30, "picks");
        Check.tells(x, 0, "5,-3,8,0,9,5");
        due("some", x.picks(0, 0, 8, 1), 4);
        check.has("some", x, 1, 5, 8, 0, 5);
        due("BUILT", x.count(1), 10);
        due("one", x.picks(0, -3, -3, 1), 1);
        check.has("one", x, 1, -3);
        due("all", x.picks(0, -999, 999, 1), 6);
        check.has("all", x, 1, 5, -3, 8, 0, 9, 5);
        int made = x.count(1);
        for (int v : NO_NUMBERS) {
            due("no such NUMBER l", x.picks(0, v, 999, 1), NONE);
            due("no such NUMBER r", x.picks(0, -999, v, 1), NONE);
            due("no such NUMBERS", x.picks(0, v, v, 1), NONE);
            due("no such NUMBER, of an empty one", x.picks(5, v, 0, 1), NONE);
        }
        check.has("as it was", x, 1, 5, -3, 8, 0, 9, 5);
        due("nothing MADE", x.count(1), made);
        due("none", x.picks(0, 8, 0, 1), 0);
        due("empty now", x.count(0), 1);
        Check.tells(x, 0, "-999,999,-998,998");
        due("the least NUMBER", x.picks(0, -999, -999, 1), 1);
        check.has("the least NUMBER", x, 1, -999);
        due("the greatest NUMBER", x.picks(0, 999, 999, 1), 1);
        check.has("the greatest NUMBER", x, 1, 999);
        for (int i : NO_PLACES) {
            due("no such PLACE", x.picks(i, 0, 1, 1), NONE);
            due("no such PLACE", x.picks(0, 0, 1, i), NONE);
        }
    }

    private void p31() {
        promise(31, "mirrors");
        Check.tells(x, 0, "0,1,2,3,4,5,6");
        due("seven", x.mirrors(0, 1), 7);
        check.has("seven", x, 1, 0, 2, 1, 6, 5, 4, 3);
        due("new NODES", x.count(1), 14);
        x.fills(7, 4, 2);
        int made = x.count(1);
        due("of three unlike NODES", x.mirrors(2, 2), 7);
        due("as many as SIZE", x.count(1) - made, 7);
        due("as many as SIZE", x.own(2), 7);
        due("none", x.mirrors(5, 1), 0);
        due("empty now", x.count(0), 5);
        for (int n = 0; n <= 255; n++) {
            x.fills(n, 1, 3);
            boolean full = n == 0 || n == 1 || n == 3 || n == 7 || n == 15 || n == 31 || n == 63 || n == 127 || n == 255;
            due("of " + n, x.mirrors(3, 4), full ? n : -2);
        }
        for (int i : NO_PLACES) {
            due("no such PLACE", x.mirrors(i, 1), NONE);
            due("no such PLACE", x.mirrors(0, i), NONE);
        }
    }

    private void p32() {
        promise(32, "heap");
        Check.tells(x, 0, "1,2,1,4,9,2,1");
        due("heap", x.heap(0), 1);
        check.row("heap", x, NONE);
        // INDEX 4 is below INDEX 2 and not below INDEX 1.
        Check.tells(x, 0, "1,8,2,8,3,8,2");
        due("heap by the ways", x.heap(0), 1);
        Check.tells(x, 0, "1,2,8,2,3,1");
        due("no heap", x.heap(0), 0);
        check.row("no heap", x, 4);
        Check.tells(x, 0, "1,0,0");
        due("below the root", x.heap(0), 0);
        check.row("below the root", x, 1);
        due("none", x.heap(5), 1);
        check.row("none", x, NONE);
        markRow();
        for (int i : NO_PLACES) {
            due("no such PLACE", x.heap(i), NONE);
        }
        rowIsMarked("refused");
    }

    private void p33() {
        promise(33, "push");
        due("upon none", x.push(0, 4, 0), 1);
        Check.tells(x, 0, "3,8,5");
        due("within", x.push(0, 4, 1), 3);
        check.has("within", x, 1, 3, 4, 8, 5);
        due("least", x.push(0, 1, 1), 3);
        check.has("least", x, 1, 1, 3, 8, 5);
        due("greatest", x.push(0, 9, 1), 3);
        check.has("greatest", x, 1, 3, 5, 8, 9);
        x.same(0, 1);
        check.row("shared", x, 1, 1);
        putRefused("push");
    }

    private void p34() {
        promise(34, "pop");
        Check.tells(x, 0, "3,8,5");
        due("three", x.pop(0, 1), 2);
        check.row("three", x, 3);
        check.has("three", x, 1, 5, 8);
        due("two", x.pop(1, 1), 1);
        check.row("two", x, 5);
        due("one", x.pop(1, 1), 0);
        check.row("one", x, 8);
        due("empty now", x.count(0), 1);
        // LEFT 2(4, 6), RIGHT 3(5): w is 4; LEFT without it 2(6, -); SIFT of 4 with 3(5) and 2(6).
        Check.grows(x, 0, "(1(2(4..)(6..))(3(5..).))");
        due("six", x.pop(0, 1), 1 + 2);
        check.has("six", x, 1, 2, 3, 4, 5, 6);
        // LEFT without its own far LEFT is the empty one; w 9 goes down at RIGHT's side, which is LEFT now.
        Check.grows(x, 0, "(1(9..)(4..))");
        due("down a", x.pop(0, 2), 2);
        check.has("down a", x, 2, 4, 9);
        Check.grows(x, 0, "(1(5(9..)(7..))(5(6..)(8..)))");
        due("alike: down a", x.pop(0, 2), 1 + 3);
        check.has("alike: down a", x, 2, 5, 6, 5, 9, 7, 8);
        Check.grows(x, 0, "(9(1(3..)(2..))(0(4..)(5..)))");
        due("w alike", x.pop(Check.grows(x, 0, "(1(5(5..)(7..))(5(6..)(8..)))") - 7, 2), 1 + 1);
        check.has("w alike", x, 2, 5, 5, 5, 6, 7, 8);
        Check.grows(x, 0, "(9(1(3..)(2..))(0(4..)(5..)))");
        due("no heap", x.pop(0, 2), 1 + 2);
        check.row("no heap", x, 9);
        check.has("no heap", x, 2, 0, 3, 1, 4, 2, 5);
        markRow();
        due("none", x.pop(5, 2), -2);
        for (int i : NO_PLACES) {
            due("no such PLACE", x.pop(i, 1), NONE);
            due("no such PLACE, and none", x.pop(5, i), NONE);
        }
        rowIsMarked("refused");
        Check.tells(x, 0, "9,-9,3,3,0,7,-2,8,1");
        x.heaps(0, 0);
        int[] rising = {-9, -2, 0, 1, 3, 3, 7, 8, 9};
        for (int v : rising) {
            x.pop(0, 0);
            check.row("rising", x, v);
            due("still a heap", x.heap(0), 1);
        }
        Check.rising(x, 0, -100, 255);
        x.reverses(0, 0);
        x.heaps(0, 0);
        for (int v = -100; v < 155; v++) {
            x.pop(0, 0);
            check.row("255 rising", x, v);
        }
        due("none left", x.count(0) & 1, 0);
        // LEFT without its far LEFT is 6 new NODES; 127 goes down to DEPTH 6, 999 to DEPTH 7.
        Check.rising(x, 0, 0, 255);
        due("255", x.pop(0, 1), 7 + 6);
        x.sets(0, 127, 999, 0);
        due("255, deep", x.pop(0, 1), 8 + 6);
    }

    private void p35() {
        promise(35, "heaps");
        markRow();
        Check.tells(x, 0, "5,3,8");
        due("three", x.heaps(0, 1), 1 + 2 + 2);
        check.has("three", x, 1, 3, 8, 5);
        due("upon itself", x.heaps(0, 0), 5);
        check.has("upon itself", x, 0, 3, 8, 5);
        due("none", x.heaps(5, 1), 0);
        due("empty now", x.count(0), 1);
        for (int i : NO_PLACES) {
            due("no such PLACE", x.heaps(i, 1), NONE);
            due("no such PLACE", x.heaps(0, i), NONE);
        }
        rowIsMarked("no ROW told");
        Check.rising(x, 0, -100, 255);
        x.heaps(0, 1);
        due("255", x.heap(1), 1);
        due("255", x.size(1), 255);
    }

    private void p36() {
        promise(36, "numbers");
        Check.rising(x, 0, 100, 20);
        due("16 at most", x.numbers(0, 0), 16);
        check.row("16 at most", x, 100, 101, 102, 103, 104, 105, 106, 107, 108, 109, 110, 111, 112, 113, 114, 115);
        due("from 17", x.numbers(0, 17), 3);
        check.row("from 17", x, 117, 118, 119);
        due("from SIZE", x.numbers(0, 20), 0);
        check.row("from SIZE", x);
        due("of none", x.numbers(5, 0), 0);
        markRow();
        due("above SIZE", x.numbers(0, 21), NONE);
        due("below 0", x.numbers(0, -1), NONE);
        for (int i : NO_PLACES) {
            due("no such PLACE", x.numbers(i, 0), NONE);
        }
        rowIsMarked("refused");
    }

    private void p37() {
        promise(37, "sum");
        Check.tells(x, 0, "5,-3,8,-3,8,0");
        due("all", x.sum(0, 0, 6), 15);
        check.row("all", x, -3, 8, 1, 2);
        due("some", x.sum(0, 3, 6), 5);
        check.row("some", x, -3, 8, 3, 4);
        due("below 0", x.sum(0, 3, 4), -3);
        check.row("below 0", x, -3, -3, 3, 3);
        due("nothing", x.sum(0, 6, 6), 0);
        check.row("nothing", x);
        markRow();
        due("l below 0", x.sum(0, -1, 2), -1000000);
        due("r below l", x.sum(0, 2, 1), -1000000);
        due("r above SIZE", x.sum(0, 2, 7), -1000000);
        for (int i : NO_PLACES) {
            due("no such PLACE", x.sum(i, 0, 0), -1000000);
        }
        rowIsMarked("refused");
        x.fills(255, -999, 0);
        due("least", x.sum(0, 0, 255), -254745);
    }

    private void p38() {
        promise(38, "finds");
        Check.tells(x, 0, "5,-3,8,-3,8,0");
        due("two", x.finds(0, -3), 1);
        check.row("two", x, 2, 3);
        due("one", x.finds(0, 5), 0);
        check.row("one", x, 1, 0);
        markRow();
        due("none", x.finds(0, 1), -2);
        due("of none", x.finds(5, 1), -2);
        Check.tells(x, 1, "5,-3,8,-3,8");
        x.finds(0, 0);
        markRow();
        due("none, but behind another row", x.finds(1, 0), -2);
        for (int v : NO_NUMBERS) {
            due("no such NUMBER", x.finds(0, v), NONE);
        }
        for (int i : NO_PLACES) {
            due("no such PLACE", x.finds(i, 1), NONE);
        }
        rowIsMarked("below 0");
    }

    private void p39() {
        promise(39, "same");
        Check.tells(x, 0, "1,2,3,4");
        Check.tells(x, 1, "1,2,3,4");
        due("alike", x.same(0, 1), 1);
        check.row("alike", x, NONE, 0);
        due("itself", x.same(0, 0), 1);
        check.row("itself", x, NONE, 4);
        x.back(0, 5, 2);
        due("shorter", x.same(0, 2), 0);
        check.row("shorter", x, 4, 2);
        due("longer", x.same(2, 0), 0);
        check.row("longer", x, 4, 2);
        x.sets(0, 2, 9, 2);
        due("unlike", x.same(0, 2), 0);
        check.row("unlike", x, 2, 2);
        due("none", x.same(4, 5), 1);
        check.row("none", x, NONE, 0);
        due("with none", x.same(0, 5), 0);
        check.row("with none", x, 0, 0);
        x.fills(7, 1, 0);
        x.copies(0, 1);
        due("unlike NODES", x.same(0, 1), 1);
        check.row("unlike NODES", x, NONE, 3);
        markRow();
        for (int i : NO_PLACES) {
            due("no such PLACE", x.same(i, 0), NONE);
            due("no such PLACE", x.same(0, i), NONE);
        }
        rowIsMarked("refused");
    }

    private void p40() {
        promise(40, "search");
        Check.tells(x, 0, "1,3,3,3,8,9");
        due("first of like ones", x.search(0, 3), 1);
        check.row("first of like ones", x, 3, 1);
        due("not there", x.search(0, 4), 4);
        check.row("not there", x, 3, 0);
        due("behind all", x.search(0, 999), 6);
        check.row("behind all", x, 2, 0);
        due("ahead of all", x.search(0, -999), 0);
        check.row("ahead of all", x, 3, 0);
        due("of none", x.search(5, 0), 0);
        check.row("of none", x, 0, 0);
        Check.tells(x, 0, "9,1,5");
        due("not rising", x.search(0, 9), 3);
        check.row("not rising", x, 2, 0);
        markRow();
        for (int v : NO_NUMBERS) {
            due("no such NUMBER", x.search(0, v), NONE);
        }
        for (int i : NO_PLACES) {
            due("no such PLACE", x.search(i, 1), NONE);
        }
        rowIsMarked("refused");
    }

    private void p41() {
        promise(41, "reaches");
        Check.tells(x, 0, "5,-3,8,-3,8");
        due("at once", x.reaches(0, 0), 0);
        check.row("at once", x, 0);
        due("least int", x.reaches(0, Integer.MIN_VALUE), 0);
        due("one", x.reaches(0, 5), 1);
        check.row("one", x, 5);
        due("three", x.reaches(0, 6), 3);
        check.row("three", x, 10);
        due("all", x.reaches(0, 15), 5);
        check.row("all", x, 15);
        due("of none", x.reaches(5, 0), 0);
        check.row("of none", x, 0);
        markRow();
        due("none", x.reaches(0, 16), -2);
        due("none", x.reaches(0, Integer.MAX_VALUE), -2);
        due("of none", x.reaches(5, 1), -2);
        for (int i : NO_PLACES) {
            due("no such PLACE", x.reaches(i, 0), NONE);
        }
        rowIsMarked("below 0");
        x.fills(255, 999, 0);
        due("above any NUMBER", x.reaches(0, 254745), 255);
    }

    private void p42() {
        promise(42, "occurs");
        Check.tells(x, 0, "1,2,1,2,1");
        Check.tells(x, 1, "1,2,1");
        due("over one another", x.occurs(0, 1), 2);
        check.row("over one another", x, 0, 2);
        due("itself", x.occurs(0, 0), 1);
        check.row("itself", x, 0, 0);
        due("longer", x.occurs(1, 0), 0);
        check.row("longer", x, NONE, NONE);
        Check.tells(x, 1, "2,2");
        due("none", x.occurs(0, 1), 0);
        check.row("none", x, NONE, NONE);
        Check.tells(x, 1, "2,1,2");
        due("one", x.occurs(0, 1), 1);
        check.row("one", x, 1, 1);
        due("an empty one", x.occurs(0, 5), 6);
        check.row("an empty one", x, 0, 5);
        due("two empty ones", x.occurs(4, 5), 1);
        check.row("two empty ones", x, 0, 0);
        markRow();
        for (int i : NO_PLACES) {
            due("no such PLACE", x.occurs(i, 0), NONE);
            due("no such PLACE", x.occurs(0, i), NONE);
        }
        rowIsMarked("refused");
    }

    private void p43() {
        promise(43, "differs");
        Check.tells(x, 0, "0,1,2,3,4,5,6");
        Check.tells(x, 1, "0,1,2,9,4,9,6");
        due("two", x.differs(0, 1), 4);
        check.row("two", x, 2);
        due("nothing MADE", x.count(1), 14);
        due("none", x.differs(0, 0), 0);
        check.row("none", x, 0);
        due("empty ones", x.differs(4, 5), 0);
        check.row("empty ones", x, 0);
        x.fills(7, 9, 2);
        due("all", x.differs(0, 2), 7);
        check.row("all", x, 7);
        due("of three unlike NODES", x.differs(2, 0), 7);
        markRow();
        due("SIZES unlike", x.differs(0, 5), -2);
        for (int i : NO_PLACES) {
            due("no such PLACE", x.differs(i, 5), NONE);
            due("no such PLACE", x.differs(0, i), NONE);
        }
        rowIsMarked("refused");
    }

    private void p44() {
        promise(44, "written");
        String tree = "(-999(100(-7..).)(10(0..).))";
        Check.grows(x, 0, "(-999(100(-07..).)(010(-0..).))");
        due("signs", x.written(0, -1), tree.length());
        for (int p = 0; p < tree.length(); p++) {
            due("sign " + p, x.written(0, p), tree.charAt(p));
        }
        due("behind the end", x.written(0, tree.length()), NONE);
        due("below NONE", x.written(0, -2), NONE);
        due("none", x.written(5, -1), 1);
        due("none", x.written(5, 0), '.');
        due("none", x.written(5, 1), NONE);
        for (int i : NO_PLACES) {
            due("no such PLACE", x.written(i, -1), NONE);
        }
        Check.grows(x, 1, Check.written(x, 0));
        due("grows again", x.same(0, 1), 1);
        Check.tells(x, 1, "99,9,-99,-9,101,100");
        check.holds("nearly more digits", Check.written(x, 1).equals("(99(9(-9..)(100..))(-99(101..).))"));
        x.fills(255, -999, 2);
        due("the longest", x.written(2, -1), 255 * 6 + 256);
        due("the longest, at its end", x.written(2, 255 * 6 + 255), ')');
    }

    private void p45() {
        promise(45, "costs");
        int[] sizes = {0, 1, 5, 6, 254, 255};
        int[][] due = {{1, 2, 3, 3, 8, -2}, {1, 2, 3, 3, 8, -2}, {-2, 0, 2, 2, 7, 7}, {-2, 0, 2, 2, 7, 7},
            {1, 2, 3, 3, 8, -2}, {1, 3, 6, 6, 36, 45}};
        for (int what = 0; what < due.length; what++) {
            for (int s = 0; s < sizes.length; s++) {
                due("of " + sizes[s] + " by " + what, x.costs(sizes[s], what), due[what][s]);
            }
        }
        for (int n = 0; n <= 255; n++) {
            x.fills(n, n, 0);
            due("FRONT upon " + n, x.costs(n, 0), x.front(0, 1, 1));
            due("BACK upon " + n, x.costs(n, 1), x.back(0, 1, 1));
            due("FIRST of " + n, x.costs(n, 2), x.first(0, 1));
            due("LAST of " + n, x.costs(n, 3), x.last(0, 1));
            due("PUSH upon " + n, x.costs(n, 4), x.push(0, 1, 1));
            x.size(0);
            due("STEPS of " + n, x.costs(n, 5), Check.rowOr(x, 0, -9));
        }
        int made = x.count(1);
        due("another what", x.costs(5, 6), NONE);
        due("another what", x.costs(5, -1), NONE);
        due("another n", x.costs(256, 3), NONE);
        due("another n", x.costs(-1, 2), NONE);
        due("another n", x.costs(Integer.MIN_VALUE, 5), NONE);
        due("nothing MADE", x.count(1), made);
    }

    private void p46() {
        promise(46, "twins");
        x.fills(5, 9, 0);
        due("five", x.twins(0), 2);
        check.row("five", x, 2, 2);
        x.fills(7, 9, 0);
        due("seven", x.twins(0), 2);
        check.row("seven", x, 4, 4);
        Check.tells(x, 0, "9,9,9");
        due("like ones of unlike NODES", x.twins(0), 0);
        check.row("like ones of unlike NODES", x, 1, 0);
        x.roots(1, 0, 0, 1);
        due("a TREE twice", x.twins(1), 3);
        check.row("a TREE twice", x, 2, 3);
        due("none", x.twins(5), 0);
        check.row("none", x, 0, 0);
        markRow();
        for (int i : NO_PLACES) {
            due("no such PLACE", x.twins(i), NONE);
        }
        rowIsMarked("refused");
    }

    private void p47() {
        promise(47, "nodes");
        due("none", x.nodes(), 0);
        check.row("none", x, 0, 0);
        Check.tells(x, 0, "1,2,3,4,5");
        x.back(0, 6, 1);
        due("two", x.nodes(), 8);
        check.row("two", x, 3, 11);
        x.copies(1, 2);
        due("three", x.nodes(), 8);
        check.row("three", x, 6, 17);
        x.fills(7, 1, 3);
        due("twice in one", x.nodes(), 11);
        check.row("twice in one", x, 6, 24);
        x.fills(0, 1, 0);
        due("what no PLACE has", x.nodes(), 9);
        check.row("what no PLACE has", x, 6, 19);
        due("MADE", x.count(1), 5 + 3 + 7 + 1);
    }

    private void p48() {
        promise(48, "own");
        Check.tells(x, 0, "1,2,3,4,5");
        due("alone", x.own(0), 5);
        check.row("alone", x, 5);
        x.back(0, 6, 1);
        due("shared", x.own(0), 5);
        check.row("shared", x, 2);
        x.copies(0, 2);
        due("a copy", x.own(0), 5);
        check.row("a copy", x, 0);
        due("the other", x.own(1), 6);
        check.row("the other", x, 3);
        x.fills(7, 1, 3);
        due("twice in one", x.own(3), 3);
        check.row("twice in one", x, 3);
        due("none", x.own(5), 0);
        check.row("none", x, 0);
        markRow();
        for (int i : NO_PLACES) {
            due("no such PLACE", x.own(i), NONE);
        }
        rowIsMarked("refused");
    }

    private void p49() {
        promise(49, "level");
        Check.tells(x, 0, "1,2,3,4,5,6");
        int[][] due = {{1, 1}, {2, 5}, {3, 15}, {0, 0}, {0, 0}, {0, 0}, {0, 0}, {0, 0}};
        for (int d = 0; d < due.length; d++) {
            due("DEPTH " + d, x.level(0, d), due[d][0]);
            check.row("DEPTH " + d, x, due[d][1]);
        }
        x.fills(255, -2, 1);
        due("one NODE 128 times", x.level(1, 7), 128);
        check.row("one NODE 128 times", x, -256);
        due("none", x.level(5, 0), 0);
        check.row("none", x, 0);
        markRow();
        due("below 0", x.level(1, -1), NONE);
        due("above 7", x.level(1, 8), NONE);
        for (int i : NO_PLACES) {
            due("no such PLACE", x.level(i, 0), NONE);
        }
        rowIsMarked("refused");
    }

    private void p50() {
        promise(50, "ways");
        markRow();
        Check.tells(x, 0, "1,2,3,4,5,6");
        due("none", x.ways(0, 0L), 0);
        due("root", x.ways(0, 1L), 1);
        due("INDEX 5", x.ways(0, 1L << 5), 3);
        due("two", x.ways(0, 1L << 3 | 1L << 4), 5);
        due("each once", x.ways(0, 1L << 3 | 1L << 5), 4);
        due("those that it has not", x.ways(0, 1L << 6 | 1L << 61), 0);
        due("all", x.ways(0, (1L << 62) - 1), 6);
        due("of none", x.ways(5, (1L << 62) - 1), 0);
        x.fills(255, 1, 1);
        due("INDEX 61", x.ways(1, 1L << 61), 6);
        due("62 of 255", x.ways(1, (1L << 62) - 1), 62);
        due("nothing MADE", x.count(1), 1 + 6 + 17);
        due("bit 62", x.ways(0, 1L << 62 | 1), NONE);
        due("bit 63", x.ways(0, Long.MIN_VALUE), NONE);
        due("all bits", x.ways(0, -1L), NONE);
        for (int i : NO_PLACES) {
            due("no such PLACE", x.ways(i, 1L), NONE);
        }
        rowIsMarked("no ROW told");
    }

    private void p51() {
        promise(51, "count");
        x.fills(3, 1, 0);
        x.fills(3, 1, 5);
        due("PLACES", x.count(0), 33);
        due("MADE", x.count(1), 10);
        x.size(0);
        due("numbers of the ROW", x.count(2), 2);
        due("still", x.count(2), 2);
        Check.text(x, "12345");
        due("signs", x.count(3), 5);
        due("still", x.count(3), 5);
        due("all EVEN", x.count(4), 1);
        due("another", x.count(5), NONE);
        due("another", x.count(-1), NONE);
        x.fills(0, 1, 0);
        due("PLACES", x.count(0), 32);
    }

    /** 450 calls of each kind that makes NODES: alike in what they make, and four PLACES stay. */
    private void againAndAgain() {
        for (int kind = 0; kind <= 19; kind++) {
            promise(1, "again and again, kind " + kind);
            for (int k = 0; k < 5; k++) {
                Check.rising(x, k, 100 * k, 127);
                x.roots(k, k, k, k);
            }
            long once = makeSome(kind);
            check.holds("something is MADE", once % 10000 > 0);
            for (int times = 0; times < 450; times++) {
                due("once more", makeSome(kind), once);
            }
            for (int k = 0; k < 4; k++) {
                due("own", x.own(k), 128);
                for (int index = 0; index < 255; index++) {
                    due("INDEX " + index, x.get(k, index), index == 0 ? k : 100 * k + (index - 1) / 2);
                }
            }
        }
    }

    /** How many NODES one call makes, and what PLACE 5 has then, in one number. */
    private long makeSome(int kind) {
        x.sides(1, 0, 5);
        int made = x.count(1);
        switch (kind) {
            case 0 -> x.fills(255, 1, 5);
            case 1 -> x.slips(5, 0, 1, 5);
            case 2 -> x.adds(0, 0, 255, 1, 5);
            case 3 -> x.appends(5, 5, 5);
            case 4 -> x.turned(1, 50, 5);
            case 5 -> x.reverses(2, 5);
            case 6 -> x.keeps(3, 9, 5);
            case 7 -> x.skips(3, 250, 5);
            case 8 -> x.swaps(0, 252, 253, 5);
            case 9 -> x.mirrors(1, 5);
            case 10 -> x.push(5, 1, 5);
            case 11 -> x.pop(2, 5);
            case 12 -> x.heaps(3, 5);
            case 13 -> x.first(2, 5);
            case 14 -> x.last(2, 5);
            case 15 -> x.sets(2, 200, -1, 5);
            case 16 -> x.front(5, 1, 5);
            case 17 -> x.back(5, 1, 5);
            case 18 -> x.parts(1, 100, 4, 5);
            default -> x.roots(-5, 5, 5, 5);
        }
        return 10000L * (x.sum(5, 0, x.size(5)) + 1000L * x.size(5) + x.own(5)) + x.count(1) - made;
    }

    private void p52() {
        promise(52, "row");
        check.row("at first", x);
        due("below 0", Check.rowOr(x, -1, -99), -99);
        Check.tells(x, 0, "4,5,6");
        check.row("not told", x);
        x.numbers(0, 0);
        check.row("told", x, 4, 5, 6);
        due("below 0", Check.rowOr(x, -1, -99), -99);
        due("greatest int", Check.rowOr(x, Integer.MAX_VALUE, -99), -99);
        x.get(0, 0);
        x.copies(0, 1);
        x.count(0);
        check.row("with calls that do not tell of it", x, 4, 5, 6);
        x.numbers(0, 3);
        check.row("told empty", x);
    }
}
