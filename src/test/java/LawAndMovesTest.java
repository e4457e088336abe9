/** Promises 9 to 13: lawful, firstUnlawful, may, move, judge. */
public final class LawAndMovesTest {
    public static void main(String[] args) {
        lawful();
        firstUnlawful();
        kindsRefused();
        moves();
        buys();
        swaps();
        rounds();
        bars();
        lanes();
        toldOnes();
        sales();
        wantedOnes();
        judged();
        judgedRefusals();
        Due.end();
    }

    private static void lawful() {
        NoTwoTouch x = Due.with("f1;f1;f1;h01;h02l;c12;p5;p5k0;p5k1;");
        Due.is("nobody's", x.lawful(), 1);
        x.owns(0, 0);
        x.owns(0, 2);
        Due.is("by a lane", x.lawful(), 1);
        x.owns(2, 2);
        x.owns(2, 1);
        Due.is("at a corner", x.lawful(), 1);
        x.law(0, 1);
        Due.is("corners count", x.lawful(), 0);
        x.owns(9, 2);
        Due.is("sold", x.lawful(), 1);
        x.owns(0, 1);
        Due.is("by a hedge", x.lawful(), 0);
        x.owns(1, 1);
        Due.is("kin do not count", x.lawful(), 1);
        x.law(1, 1);
        Due.is("kin count", x.lawful(), 0);
        x.owns(2, 1);
        Due.is("kin of kin", x.lawful(), 1);
        x.owns(1, 0);
        Due.is("kin the other way", x.lawful(), 0);
    }

    private static void firstUnlawful() {
        NoTwoTouch x = Due.with("f1;f1;f1;f1;h23;h13;h12;p5;p5k0;");
        Due.is("none", x.firstUnlawful(), -4);
        x.owns(0, 2);
        x.owns(0, 3);
        Due.is("2 and 3", x.firstUnlawful(), 23);
        x.owns(1, 1);
        Due.is("kin do not count", x.firstUnlawful(), 23);
        x.law(1, 1);
        Due.is("kin count", x.firstUnlawful(), 12);
        x.owns(9, 2);
        Due.is("1 and 3", x.firstUnlawful(), 13);
        x.owns(9, 3);
        Due.is("none again", x.firstUnlawful(), -4);
        Due.read(x, "h03l;c02;");
        x.owns(9, 1);
        x.owns(0, 0);
        x.owns(0, 3);
        Due.is("a lane", x.firstUnlawful(), -4);
        x.owns(1, 2);
        x.law(0, 1);
        Due.is("a corner, of kin", x.firstUnlawful(), 2);
    }

    private static void mayIs(NoTwoTouch x, int k, int wfog, int may, int wanted) {
        Due.keep(x, k, wfog);
        Due.is("may " + k + " " + wfog, x.may(1, 0), may);
        Due.is("wanted " + k + " " + wfog, x.may(1, 1), wanted);
    }

    private static void refused(NoTwoTouch x, int k, int wfog, int refusal) {
        mayIs(x, k, wfog, refusal, refusal);
        Due.is("move " + k + " " + wfog, x.move(1), refusal);
    }

    private static void kindsRefused() {
        NoTwoTouch x = Due.with("f1;f1;f1;p50;");
        Due.is("shelf -1", x.may(-1, 0), -1);
        Due.is("shelf 8", x.may(8, 0), -1);
        Due.is("what 2", x.may(1, 2), -1);
        Due.is("what -1", x.may(1, -1), -1);
        Due.is("nothing", x.may(1, 0), -11);
        Due.is("a row", x.may(0, 0), -12);
        Due.is("move -1", x.move(-1), -1);
        Due.is("move 8", x.move(8), -1);
        Due.is("move of nothing", x.move(1), -11);
        Due.is("move of a row", x.move(0), -12);
        for (int k = 0; k < 8; k++) {
            refused(x, k, 1000, -13);
            refused(x, k, 9000, -13);
            refused(x, k, 300, -13);
            Due.keep(x, k, 30);
            boolean needsOther = k == 2 || k == 3 || k == 5;
            Due.is("other of " + k, x.may(1, 0) == -13 ? 1 : 0, needsOther ? 1 : 0);
            Due.keep(x, k, 13);
            Due.is("figure of " + k, x.may(1, 0) == -13 ? 1 : 0, k == 3 ? 1 : 0);
        }
    }

    private static void moves() {
        NoTwoTouch x = Due.with("f1;f1;h01;p5;");
        mayIs(x, 0, 9, 1, 1);
        Due.is("nothing is done", x.move(1), 0);
        x.owns(0, 0);
        x.owns(0, 1);
        mayIs(x, 0, 0, 0, 1);
        Due.is("unlawful ahead", x.move(1), -3);
    }

    private static void buys() {
        NoTwoTouch x = Due.with("f1;f2;f9;h01;p30;p995;o11;");
        mayIs(x, 1, 105, 1, 0);
        Due.is("buy", x.move(1), 1);
        Due.is("paid 25", x.person(0, 0), 5);
        Due.is("held to 999", x.person(1, 0), 999);
        Due.is("owner", x.field(1, 1), 0);
        mayIs(x, 1, 105, 0, 0);
        Due.is("owns it", x.move(1), -3);
        mayIs(x, 1, 0, 0, 1);
        Due.is("a hedge", x.move(1), -3);
        mayIs(x, 1, 200, 0, 1);
        Due.is("not paid", x.move(1), -3);
        mayIs(x, 1, 1209, 1, 1);
        Due.is("of nobody", x.move(1), 1);
        Due.is("pays nobody", x.person(1, 0), 900);
        NoTwoTouch z = Due.with("f1;f1;h01;p99;o01;");
        mayIs(z, 1, 0, 0, 1);
        Due.is("a hedge alone", z.move(1), -3);
        NoTwoTouch y = Due.with("f1;p10;");
        mayIs(y, 1, 1, 0, 1);
        mayIs(y, 1, 0, 1, 1);
        Due.is("to 0", y.move(1), 1);
        Due.is("0 coins", y.person(0, 0), 0);
    }

    private static void swaps() {
        NoTwoTouch x = Due.with("f1;f2;f3;h12;p0;p0;o00;o11;");
        mayIs(x, 2, 110, 0, 0);
        Due.is("not two", x.move(1), -3);
        mayIs(x, 2, 10, 1, 0);
        Due.is("swap", x.move(1), 2);
        Due.is("owner 0", x.field(0, 1), 1);
        Due.is("owner 1", x.field(1, 1), 0);
        mayIs(x, 2, 129, 1, 1);
        Due.is("nobody, too", x.move(1), 2);
        Due.is("owner 2", x.field(2, 1), 0);
        Due.is("nobody's", x.field(1, 1), -4);
        mayIs(x, 2, 10, 1, 1);
        x.owns(1, 1);
        mayIs(x, 2, 10, 1, 1);
        Due.is("of one owner", x.move(1), 0);
        x.owns(0, 0);
        mayIs(x, 2, 20, 1, 1);
        mayIs(x, 2, 100, 0, 0);
        Due.is("unlawful behind", x.move(1), -3);
        x.owns(1, 0);
        x.owns(0, 1);
        Due.is("unlawful ahead", x.lawful(), 0);
        mayIs(x, 2, 1100, 1, 0);
        Due.is("lawful behind", x.move(1), 2);
    }

    private static void rounds() {
        NoTwoTouch x = Due.with("f1;f2;f3;f4;p0;p0;o00;o11;");
        mayIs(x, 3, 2, 0, 0);
        mayIs(x, 3, 111, 0, 0);
        mayIs(x, 3, 121, 0, 0);
        mayIs(x, 3, 122, 0, 0);
        mayIs(x, 3, 12, 1, 1);
        Due.is("round", x.move(1), 3);
        Due.is("field 1", x.field(1, 1), 0);
        Due.is("field 2", x.field(2, 1), 1);
        Due.is("field 0", x.field(0, 1), -4);
        mayIs(x, 3, 103, 1, 0);
        Due.is("round", x.move(1), 2);
        Due.is("field 0", x.field(0, 1), 0);
        Due.is("field 1", x.field(1, 1), -4);
        Due.is("field 3", x.field(3, 1), -4);
        NoTwoTouch y = Due.with("f1;f2;f3;h01;p0;o00;o02;");
        mayIs(y, 3, 12, 0, 0);
        Due.is("unlawful behind", y.move(1), -3);
    }

    private static void bars() {
        NoTwoTouch x = Due.with("f1;f2;h01;p49;p0;o11;");
        mayIs(x, 4, 105, 0, 0);
        Due.is("not paid", x.move(1), -3);
        mayIs(x, 4, 104, 1, 0);
        Due.is("at twice the price", x.move(1), 1);
        Due.is("paid", x.person(0, 0), 1);
        Due.is("got", x.person(1, 0), 48);
        mayIs(x, 4, 104, 0, 0);
        mayIs(x, 4, 1000, 1, 1);
        Due.is("of nobody", x.move(1), 1);
        Due.is("paid too", x.person(1, 0), 28);
    }

    private static void lanes() {
        NoTwoTouch x = Due.with("f1;f2;f3;h01;c12;p20;o00;o01;");
        mayIs(x, 5, 15, 0, 1);
        Due.is("not paid", x.move(1), -3);
        mayIs(x, 5, 14, 1, 1);
        Due.is("lane", x.move(1), 0);
        Due.is("so it is", x.touch(0, 1), 2);
        Due.is("paid", x.person(0, 0), 0);
        Due.is("lawful by it", x.lawful(), 1);
        mayIs(x, 5, 10, 0, 0);
        mayIs(x, 5, 120, 0, 0);
        mayIs(x, 5, 20, 0, 0);
        mayIs(x, 5, 110, 0, 0);
        Due.is("hedges", x.count(4), 1);
        Due.is("lanes", x.count(5), 1);
    }

    private static void toldOnes() {
        NoTwoTouch x = Due.with("f1;f2;f3;h01;p20;p5;o10;o11;");
        mayIs(x, 6, 200, 0, 1);
        Due.is("still unlawful", x.move(1), -3);
        mayIs(x, 6, 100, 1, 1);
        Due.is("told", x.move(1), 1);
        Due.is("nobody's", x.field(1, 1), -4);
        Due.is("again", x.move(1), 0);
        Due.is("no coins", x.count(7), 25);
    }

    private static void sales() {
        NoTwoTouch x = Due.with("f1;f9;p990;p0;o00;o01;");
        mayIs(x, 7, 1000, 0, 0);
        Due.is("not owned", x.move(1), -3);
        mayIs(x, 7, 5, 1, 1);
        Due.is("sold", x.move(1), 1);
        Due.is("half, cut", x.person(0, 0), 997);
        Due.is("nobody's", x.field(0, 1), -4);
        mayIs(x, 7, 5, 0, 0);
        Due.keep(x, 7, 100);
        Due.is("sold", x.move(1), 1);
        Due.is("held to 999", x.person(0, 0), 999);
    }

    private static void wantedOnes() {
        NoTwoTouch x = Due.with("f1;f2;p500;p500;w00 0;w01 5;w10 7;w11 5;o00;");
        mayIs(x, 1, 1000, 1, 1);
        x.owns(1, 1);
        mayIs(x, 2, 10, 1, 1);
        x.owns(0, 1);
        x.owns(1, 0);
        mayIs(x, 2, 10, 1, 0);
        mayIs(x, 1, 1100, 1, 0);
    }

    private static void judged() {
        NoTwoTouch x = Due.with("f1;f1;f1;h01;c12;p5;p5k0;");
        Due.bytes(x, 2);
        Due.is("no changes", x.judge(2), -4);
        Due.bytes(x, 2, 0, 0, 9, 0, 0, 1, 0, 2);
        Due.is("all go", x.judge(2), -4);
        Due.is("in mind", x.count(3), 0);
        Due.bytes(x, 2, 0, 0, 1, 1, 0, 1);
        Due.is("the third", x.judge(2), 4);
        x.law(1, 1);
        Due.is("kin", x.judge(2), 2);
        Due.bytes(x, 2, 0, 0, 2, 1);
        Due.is("no such person", x.judge(2), 2);
        Due.bytes(x, 2, 0, 0, 0, 3);
        Due.is("no such field", x.judge(2), 2);
        Due.bytes(x, 2, -1, 0);
        Due.is("a person below 0", x.judge(2), 0);
        Due.bytes(x, 2, 0, -1);
        Due.is("a field below 0", x.judge(2), 0);
        Due.bytes(x, 2, 0, 0, 9);
        Due.is("odd", x.judge(2), 3);
        Due.bytes(x, 2, 77);
        Due.is("one alone", x.judge(2), 1);
        Due.bytes(x, 2, 0, 0, 0, 1, 0);
        Due.is("ahead of the size", x.judge(2), 2);
        x.owns(0, 0);
        x.owns(0, 1);
        Due.bytes(x, 2, 9, 2, 9, 0);
        Due.is("unlawful now", x.judge(2), 0);
        Due.bytes(x, 2, 9, 0);
        Due.is("lawful by it", x.judge(2), -4);
    }

    private static void judgedRefusals() {
        NoTwoTouch x = new NoTwoTouch();
        Due.is("shelf -1", x.judge(-1), -1);
        Due.is("shelf 8", x.judge(8), -1);
        Due.is("nothing", x.judge(2), -11);
        Due.keep(x, 1, 0);
        Due.is("a move", x.judge(1), -12);
        x.row(2, 1, 2);
        Due.is("shorts", x.judge(2), -12);
        x.row(2, 2, 2);
        Due.is("ints", x.judge(2), -12);
    }
}
