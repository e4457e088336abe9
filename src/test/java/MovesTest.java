/** Promises 11, 12, 33 and 34, sentence by sentence: what moves do, when they may be done, what they cost. */
public final class MovesTest {
    public static void main(String[] args) {
        figuresOfWfog();
        otherDoesNotMatterElsewhere();
        figureOfRoundIsAField();
        buyPaysToTheLastCoin();
        buyPaysWhoOwnedIt();
        buyOfNobodyIsPaidToo();
        buyOfOwnIsNotAsTold();
        coinsAreHeldTo999();
        barIsAtTwiceThePrice();
        swapOfAllKinds();
        roundGoesOneWay();
        laneNeedsABareHedge();
        laneIsPaid();
        laneMakesLawful();
        toldOfNobodysField();
        sellGetsHalfCut();
        sellNeedsItsOwner();
        lawfulBehindAlone();
        kinCountForMoves();
        wantedLooksAtWorthAlone();
        wantedWithoutMay();
        toldAndSoldAreWanted();
        movesStay();
        mayChangesNothing();
        Due.end();
    }

    private static void mayIs(NoTwoTouch x, int k, int wfog, int may, int wanted) {
        Due.keep(x, k, wfog);
        Due.is("may " + k + " " + wfog, x.may(1, 0), may);
        Due.is("wanted " + k + " " + wfog, x.may(1, 1), wanted);
    }

    private static void done(NoTwoTouch x, int k, int wfog, int changed) {
        Due.keep(x, k, wfog);
        Due.is("may " + k + " " + wfog, x.may(1, 0), 1);
        Due.is("move " + k + " " + wfog, x.move(1), changed);
    }

    private static void notDone(NoTwoTouch x, int k, int wfog) {
        Due.keep(x, k, wfog);
        Due.is("may not " + k + " " + wfog, x.may(1, 0), 0);
        String before = State.of(x);
        Due.is("move " + k + " " + wfog, x.move(1), -3);
        Due.is("nothing is done", State.of(x).equals(before) ? 1 : 0, 1);
    }

    private static void ownersAre(NoTwoTouch x, int... owners) {
        for (int f = 0; f < owners.length; f++) {
            Due.is("owner of " + f, x.field(f, 1), owners[f] == 9 ? -4 : owners[f]);
        }
    }

    private static void figuresOfWfog() {
        NoTwoTouch x = Due.with("f1;f2;f3;f4;f5;f6;p100;p100;p100;");
        done(x, 1, 198, 1);
        ownersAre(x, 9, 0, 9, 9, 9, 9);
        Due.is("paid 28", x.person(0, 0), 72);
        done(x, 1, 1593, 1);
        ownersAre(x, 9, 0, 9, 9, 9, 1);
        Due.is("paid 63", x.person(1, 0), 37);
        done(x, 7, 1599, 1);
        Due.is("got 34", x.person(1, 0), 71);
        done(x, 1, 2099, 1);
        ownersAre(x, 2, 0, 9, 9, 9, 9);
        Due.is("paid 19", x.person(2, 0), 81);
        done(x, 3, 2015, 3);
        ownersAre(x, 9, 2, 9, 9, 9, 0);
        done(x, 2, 2519, 2);
        ownersAre(x, 9, 0, 9, 9, 9, 2);
    }

    private static void otherDoesNotMatterElsewhere() {
        NoTwoTouch x = Due.with("f1;p100;o00;");
        mayIs(x, 0, 99, 1, 1);
        mayIs(x, 1, 99, 0, 0);
        mayIs(x, 4, 99, 0, 0);
        mayIs(x, 6, 99, 1, 1);
        mayIs(x, 7, 99, 1, 1);
    }

    private static void figureOfRoundIsAField() {
        NoTwoTouch x = Due.with("f1;f1;f1;f1;f1;f1;p5;");
        mayIs(x, 3, 15, 1, 1);
        for (int figure = 6; figure < 10; figure++) {
            mayIs(x, 3, 10 + figure, -13, -13);
            mayIs(x, 2, 10 + figure, 1, 1);
        }
    }

    private static void buyPaysToTheLastCoin() {
        NoTwoTouch x = Due.with("f1;f1;f9;p10;p99;");
        notDone(x, 1, 1);
        done(x, 1, 0, 1);
        Due.is("no coins", x.person(0, 0), 0);
        notDone(x, 1, 100);
        done(x, 1, 1209, 1);
        Due.is("no coins", x.person(1, 0), 0);
    }

    private static void buyPaysWhoOwnedIt() {
        NoTwoTouch x = Due.with("f3;p40;p2;p7;o10;");
        done(x, 1, 4, 1);
        ownersAre(x, 0);
        Due.is("paid", x.person(0, 0), 6);
        Due.is("got", x.person(1, 0), 36);
        Due.is("not another", x.person(2, 0), 7);
    }

    private static void buyOfNobodyIsPaidToo() {
        NoTwoTouch x = Due.with("f3;p40;p2;");
        done(x, 1, 4, 1);
        Due.is("all coins", x.count(7), 8);
        NoTwoTouch y = Due.with("f3;p80;p2;");
        done(y, 4, 4, 1);
        Due.is("all coins", y.count(7), 14);
    }

    private static void buyOfOwnIsNotAsTold() {
        NoTwoTouch x = Due.with("f1;p999;p999;o00;");
        notDone(x, 1, 0);
        notDone(x, 4, 0);
        mayIs(x, 1, 0, 0, 0);
        mayIs(x, 4, 0, 0, 0);
        mayIs(x, 1, 1000, 1, 0);
        mayIs(x, 4, 1000, 1, 0);
    }

    private static void coinsAreHeldTo999() {
        int[] purses = {988, 989, 990, 999};
        for (int purse : purses) {
            NoTwoTouch x = Due.with("f1;p50;p" + purse + ";o10;");
            done(x, 1, 0, 1);
            Due.is("seller of " + purse, x.person(1, 0), Math.min(999, purse + 10));
            Due.is("buyer", x.person(0, 0), 40);
        }
        for (int purse = 993; purse < 1000; purse++) {
            NoTwoTouch x = Due.with("f1;p" + purse + ";o00;");
            done(x, 7, 0, 1);
            Due.is("sold by " + purse, x.person(0, 0), Math.min(999, purse + 5));
        }
    }

    private static void barIsAtTwiceThePrice() {
        NoTwoTouch x = Due.with("f9;p198;p0;o10;");
        done(x, 4, 9, 1);
        Due.is("paid", x.person(0, 0), 0);
        Due.is("got", x.person(1, 0), 198);
        NoTwoTouch y = Due.with("f9;p197;p0;o10;");
        notDone(y, 4, 9);
        done(y, 4, 8, 1);
    }

    private static void swapOfAllKinds() {
        NoTwoTouch x = Due.with("f1;f1;f1;p0;p0;");
        notDone(x, 2, 0);
        done(x, 2, 10, 0);
        x.owns(0, 0);
        done(x, 2, 10, 2);
        ownersAre(x, 9, 0, 9);
        x.owns(0, 0);
        done(x, 2, 10, 0);
        x.owns(1, 0);
        done(x, 2, 1010, 2);
        ownersAre(x, 0, 1, 9);
        Due.is("no coins", x.count(7), 0);
    }

    private static void roundGoesOneWay() {
        NoTwoTouch x = Due.with("f1;f1;f1;f1;p0;p0;p0;o00;o11;o22;");
        done(x, 3, 12, 3);
        ownersAre(x, 2, 0, 1, 9);
        done(x, 3, 213, 3);
        ownersAre(x, 2, 1, 9, 0);
        notDone(x, 3, 1);
        notDone(x, 3, 10);
        notDone(x, 3, 11);
        notDone(x, 3, 0);
        mayIs(x, 3, 11, 0, 0);
        Due.is("no coins", x.count(7), 0);
    }

    private static void laneNeedsABareHedge() {
        NoTwoTouch x = Due.with("f1;f1;f1;f1;h01;h12l;c23;p99;x10;");
        mayIs(x, 5, 10, 1, 1);
        mayIs(x, 5, 100, 1, 1);
        mayIs(x, 5, 120, 0, 0);
        mayIs(x, 5, 230, 0, 0);
        mayIs(x, 5, 30, 0, 0);
        mayIs(x, 5, 110, 0, 0);
        notDone(x, 5, 120);
        notDone(x, 5, 230);
        notDone(x, 5, 110);
    }

    private static void laneIsPaid() {
        NoTwoTouch x = Due.with("f1;f1;f1;h01;h12;p45;p0;");
        notDone(x, 5, 1011);
        done(x, 5, 1010, 0);
        done(x, 5, 129, 0);
        Due.is("paid 45", x.person(0, 0), 0);
        Due.is("lanes", x.count(5), 2);
        NoTwoTouch y = Due.with("f1;f1;h01;p44;");
        notDone(y, 5, 19);
        done(y, 5, 18, 0);
        Due.is("paid 40", y.person(0, 0), 4);
    }

    private static void laneMakesLawful() {
        NoTwoTouch x = Due.with("f1;f1;f1;h01;h12;p45;o00;o01;");
        notDone(x, 5, 120);
        done(x, 5, 10, 0);
        Due.is("lawful", x.lawful(), 1);
        ownersAre(x, 0, 0, 9);
    }

    private static void toldOfNobodysField() {
        NoTwoTouch x = Due.with("f1;f1;h01;p5;p5;o10;");
        done(x, 6, 100, 0);
        done(x, 6, 0, 1);
        ownersAre(x, 9, 9);
        done(x, 6, 1000, 0);
        Due.is("no coins", x.count(7), 10);
    }

    private static void sellGetsHalfCut() {
        for (int figure = 0; figure < 10; figure++) {
            NoTwoTouch x = Due.with("f3;p100;p7;o00;");
            done(x, 7, figure, 1);
            Due.is("half with " + figure, x.person(0, 0), 115 + figure / 2);
            Due.is("another's coins", x.person(1, 0), 7);
            ownersAre(x, 9);
        }
    }

    private static void sellNeedsItsOwner() {
        NoTwoTouch x = Due.with("f1;f1;p5;p5;o00;");
        notDone(x, 7, 1000);
        notDone(x, 7, 100);
        mayIs(x, 7, 1000, 0, 0);
        mayIs(x, 7, 100, 0, 0);
        mayIs(x, 7, 0, 1, 1);
    }

    private static void lawfulBehindAlone() {
        NoTwoTouch x = Due.with("f1;f1;f1;h01;h12;p99;p99;o00;o01;");
        notDone(x, 0, 0);
        notDone(x, 1, 200);
        notDone(x, 1, 1200);
        notDone(x, 6, 200);
        done(x, 1, 1100, 1);
        Due.is("lawful", x.lawful(), 1);
        notDone(x, 1, 1000);
        notDone(x, 4, 100);
    }

    private static void kinCountForMoves() {
        NoTwoTouch x = Due.with("f1;f1;h01;p99;p99k0;o00;x01;");
        notDone(x, 1, 1100);
        x.law(1, 0);
        done(x, 1, 1100, 1);
        x.law(1, 1);
        notDone(x, 0, 0);
        done(x, 7, 1100, 1);
    }

    private static void wantedLooksAtWorthAlone() {
        NoTwoTouch x = Due.with("f1;f1;f1;p0;p0;p0;w00 4;w01 4;w10 4;w11 4;o00;o11;o22;");
        mayIs(x, 2, 10, 1, 1);
        Due.read(x, "w11 5;");
        mayIs(x, 2, 10, 1, 0);
        Due.read(x, "w10 5;w01 3;");
        mayIs(x, 2, 10, 1, 0);
        Due.read(x, "w01 9;");
        mayIs(x, 2, 10, 1, 1);
        // One whose FIELD would be another's for coins has less WORTH; coins don't make up for it.
        x.owns(9, 0);
        Due.read(x, "w00 0;");
        mayIs(x, 1, 0, 0, 1);
        mayIs(x, 1, 100, 0, 0);
        Due.read(x, "w11 0;");
        mayIs(x, 1, 100, 0, 1);
    }

    private static void wantedWithoutMay() {
        NoTwoTouch x = Due.with("f1;f1;h01;p0;o00;");
        mayIs(x, 1, 100, 0, 1);
        x.owns(0, 1);
        mayIs(x, 0, 0, 0, 1);
        mayIs(x, 5, 19, 0, 1);
    }

    private static void toldAndSoldAreWanted() {
        NoTwoTouch x = Due.with("f9;p0;o00;");
        mayIs(x, 6, 0, 1, 1);
        mayIs(x, 7, 0, 1, 1);
        x.owns(9, 0);
        mayIs(x, 6, 0, 1, 1);
        mayIs(x, 7, 0, 0, 0);
    }

    private static void movesStay() {
        NoTwoTouch x = Due.with("f1;f1;f1;p5;o00;");
        Due.keep(x, 3, 12);
        for (int times = 1; times < 7; times++) {
            Due.is("again", x.move(1), 2);
            Due.is("where it is", x.person(0, 2), 1 << times % 3);
        }
        Due.is("fee", x.fee(1), 7);
        Due.is("toss", x.toss(1), 102);
    }

    private static void mayChangesNothing() {
        NoTwoTouch x = Due.with("f1;f1;f1;h01;p99;p99;o00;");
        String land = landOf(x);
        for (int k = 0; k < 8; k++) {
            for (int wfog : new int[] {12, 1012, 1102, 20}) {
                Due.keep(x, k, wfog);
                x.may(1, 0);
                x.may(1, 1);
                Due.is("nothing comes of " + k + " " + wfog, landOf(x).equals(land) ? 1 : 0, 1);
            }
        }
    }

    private static String landOf(NoTwoTouch x) {
        x.keep(1, 0, 0, 0);
        return State.of(x);
    }
}
