/** Promises 1, 3 to 10 and 13 to 32: the boundary cases of the document's sentences, one by one. */
public final class BoundariesTest {
    private static final String SIX = "f1;f1;f1;f1;f1;f1;";

    public static void main(String[] args) {
        worthsAtFirst();
        barsByHedgeAndCorner();
        kinIsNotHandedOn();
        nobodyIsUnlawful();
        firstUnlawfulIsTheLeast();
        fewestGoesBack();
        mostOfNothing();
        mostOfLittle();
        bestOfNothing();
        bestOfSix();
        bestIsFirstByFields();
        withMustsOfAll();
        chainOfNobody();
        chainFromUnlawful();
        chainRowsOfWrongSize();
        floodOfWhatIsThere();
        floodOfSeveralWays();
        freesForgetsWhoOwns();
        freesOfSeveral();
        gameOfWhatIsOwned();
        valueBelowZero();
        deedsOfAllYears();
        deedsUpToEight();
        lotsOfSeeds();
        lotsAreDrawnForNobodysAlone();
        lotsNotLawfulUseTheirDraw();
        judgedSizes();
        judgedOneByOne();
        imageIsTakenAnew();
        imageHasTheLaw();
        countsOfNothing();
        shelvesAreEight();
        rowsUpToAHundred();
        lowestBits();
        copiesUpToTheEnd();
        whatIsReadStays();
        Due.end();
    }

    private static void worthsAtFirst() {
        for (int acres = 1; acres < 10; acres++) {
            NoTwoTouch x = Due.with("p1;f" + acres + ";p1;");
            Due.is("of one ahead", x.worth(0, 0), 10 * acres);
            Due.is("of one behind", x.worth(1, 0), 10 * acres);
        }
    }

    private static void barsByHedgeAndCorner() {
        NoTwoTouch x = Due.with(SIX + "h01;h02l;c03;p5;o00;o01;o02;o03;o04;");
        Due.is("by the hedge", x.field(0, 2), 2);
        x.law(1, 1);
        Due.is("kin do not matter", x.field(0, 2), 2);
        x.law(0, 1);
        Due.is("and at the corner", x.field(0, 2), 10);
        Due.is("the lane does not", x.field(2, 2), 0);
        Due.is("nothing else", x.field(4, 2), 0);
    }

    private static void kinIsNotHandedOn() {
        NoTwoTouch x = Due.with("f1;f1;h01;p5;p5k0;p5k1;x01;o00;o21;");
        Due.is("kin of kin", x.lawful(), 1);
        x.owns(1, 1);
        Due.is("kin", x.lawful(), 0);
        x.owns(2, 0);
        Due.is("kin the other way", x.lawful(), 0);
        NoTwoTouch y = Due.with("f1;f1;h01;p5;p5k0;p5k0;x01;o10;o21;");
        Due.is("two with one kin", y.lawful(), 1);
    }

    private static void nobodyIsUnlawful() {
        Due.is("no fields", new NoTwoTouch().lawful(), 1);
        Due.is("no fields", new NoTwoTouch().firstUnlawful(), -4);
        NoTwoTouch x = Due.with("f1;f1;f1;h01;c20;x11;");
        Due.is("nobody's", x.lawful(), 1);
        Due.is("nobody's", x.firstUnlawful(), -4);
    }

    private static void firstUnlawfulIsTheLeast() {
        NoTwoTouch x = Due.with(SIX + "h45;h50;h14;p5;p5;o04;o05;o00;o11;");
        Due.is("0 and 5", x.firstUnlawful(), 5);
        x.owns(0, 1);
        Due.is("still", x.firstUnlawful(), 5);
        x.owns(1, 0);
        Due.is("1 and 4", x.firstUnlawful(), 14);
        x.owns(1, 1);
        Due.is("4 and 5", x.firstUnlawful(), 45);
        x.owns(9, 4);
        Due.is("none", x.firstUnlawful(), -4);
    }

    private static void fewestGoesBack() {
        // With 0 for field 1, too, field 3 would be between 0 and 1, and need a third.
        NoTwoTouch x = Due.with("f1;f1;f1;f1;h03;h12;h23;");
        Due.is("two", x.fewest(-1), 2);
        int[] numbers = {0, 0, 1, 0};
        NoTwoTouch y = Due.with("f1;f1;f1;f1;h02;h12;h23;");
        for (int f = 0; f < 4; f++) {
            Due.is("first numbers of " + f, y.fewest(f), numbers[f]);
        }
        Due.is("1 goes back to 1", x.fewest(1), 1);
        Due.is("2 to 0", x.fewest(2), 0);
        Due.is("3 to 1", x.fewest(3), 1);
        Due.is("lanes", Due.with("f1;f1;h01l;").fewest(-1), 1);
    }

    private static void mostOfNothing() {
        NoTwoTouch x = Due.with("p5;p5;");
        Due.is("no fields", x.most(0, 0), 0);
        Due.is("no worth", x.most(0, 1), 0);
        Due.read(x, SIX);
        for (int f = 0; f < 6; f++) {
            x.owns(1, f);
        }
        Due.is("all another's", x.most(0, 0), 0);
        Due.is("all another's", x.most(0, 1), 0);
        Due.is("all its own", x.most(1, 0), 63);
        Due.is("worth of all", x.most(1, 1), 60);
    }

    private static void mostOfLittle() {
        NoTwoTouch x = Due.with("f1;f1;h01;p5;w00 0;w01 1;");
        Due.is("worth 1", x.most(0, 1), 1);
        Due.is("one alone", x.most(0, 0), 2);
        Due.read(x, "w00 1;");
        Due.is("the least", x.most(0, 0), 1);
        Due.read(x, "f1;w02 0;");
        Due.is("without one of no worth", x.most(0, 0), 1);
    }

    private static void bestOfNothing() {
        Due.is("no fields", new NoTwoTouch().best(-1), 0);
        Due.is("no field", new NoTwoTouch().best(0), -1);
        NoTwoTouch x = Due.with(SIX);
        Due.is("nobody there", x.best(-1), 0);
        Due.is("nobody", x.best(5), -4);
        Due.is("nobody", x.withMusts(5), -4);
    }

    private static void bestOfSix() {
        NoTwoTouch x = Due.with(SIX + "p5;p5;w15 11;");
        Due.is("all six", x.best(-1), 61);
        Due.is("the first", x.best(0), 0);
        Due.is("the last", x.best(5), 1);
        Due.is("all six", x.withMusts(-1), 61);
        x.owns(0, 5);
        Due.is("the last stays", x.withMusts(-1), 60);
        Due.is("the last stays", x.withMusts(5), 0);
    }

    private static void bestIsFirstByFields() {
        NoTwoTouch x = Due.with("f1;f1;h01;p5;p5;p5;w00 0;w10 0;w20 0;w01 0;w11 7;w21 7;");
        Due.is("worth", x.best(-1), 7);
        Due.is("nobody first", x.best(0), -4);
        Due.is("then the least", x.best(1), 1);
        Due.read(x, "w20 3;");
        Due.is("worth", x.best(-1), 10);
        Due.is("who has worth", x.best(0), 2);
        Due.is("the other", x.best(1), 1);
    }

    private static void withMustsOfAll() {
        NoTwoTouch x = Due.with("f1;f1;f1;h01;p5;p5;w10 99;o00;o11;o02;");
        Due.is("all stay", x.withMusts(-1), 30);
        Due.is("0 stays", x.withMusts(0), 0);
        Due.is("best does not look at it", x.best(0), 1);
        x.owns(0, 1);
        Due.is("unlawful", x.withMusts(-1), -4);
        for (int f = 0; f < 3; f++) {
            Due.is("unlawful, for a field", x.withMusts(f), -4);
        }
        Due.is("no field", x.withMusts(3), -1);
    }

    private static int chainTo(NoTwoTouch x, int... owners) {
        Due.bytes(x, 2, owners);
        return x.chain(2);
    }

    private static void chainOfNobody() {
        NoTwoTouch x = Due.with("f1;f1;");
        Due.is("as it is", chainTo(x, 9, 9), 0);
        Due.is("no such person", chainTo(x, 0, 9), -13);
        Due.is("no fields", chainTo(new NoTwoTouch()), 0);
        Due.is("a field too many", chainTo(new NoTwoTouch(), 9), -13);
    }

    private static void chainFromUnlawful() {
        NoTwoTouch x = Due.with("f1;f1;f1;h01;p5;p5;o00;o01;");
        Due.is("to what is lawful", chainTo(x, 0, 1, 9), 1);
        Due.is("the last of all", chainTo(x, 9, 9, 9), 2);
        Due.is("first what makes it lawful", chainTo(x, 0, 9, 0), 2);
        Due.is("there again", chainTo(x, 0, 0, 9), 0);
        Due.is("to another unlawful one", chainTo(x, 1, 1, 9), -4);
        Due.is("unlawful still", chainTo(x, 0, 0, 0), -4);
        Due.read(x, "f1;h23;");
        x.owns(1, 2);
        x.owns(1, 3);
        Due.is("two that are unlawful", chainTo(x, 9, 0, 9, 1), -4);
        Due.is("as it is", chainTo(x, 0, 0, 1, 1), 0);
    }

    private static void chainRowsOfWrongSize() {
        NoTwoTouch x = Due.with("f1;f1;f1;p5;");
        Due.is("one less", chainTo(x, 0, 0), -13);
        Due.is("one more", chainTo(x, 0, 0, 0, 9), -13);
        Due.is("as many", chainTo(x, 0, 0, 0), 3);
        for (int nobodySuch : new int[] {1, 2, 8, 10, -1, 127, -128}) {
            Due.is("nobody such", chainTo(x, 0, 0, nobodySuch), -13);
            Due.is("nobody such", chainTo(x, nobodySuch, 9, 9), -13);
        }
        Due.is("lowest bits", chainTo(x, 256, 9, 9), 1);
    }

    private static void floodOfWhatIsThere() {
        NoTwoTouch x = Due.with("f1;f2;f3;h01;h12l;c02;p5;p5;o00;o11;o02;");
        Due.is("a hedge already", x.flood(0, 1), 0);
        Due.is("a corner", x.flood(0, 2), 1);
        x.owns(0, 1);
        Due.is("what bars already, too", x.flood(0, 1), 1);
        Due.is("a lane goes", x.flood(2, 1), 2);
        Due.is("nobody's", Due.with("f1;f1;").flood(0, 1), 0);
    }

    private static void floodOfSeveralWays() {
        NoTwoTouch x = Due.with("f3;f1;f3;f3;h01;h02;p5;o00;o01;o02;o03;");
        Due.is("1 with 0 or with 2: the least as bits", x.flood(1, 3), 3);
        Due.is("0 alone", x.flood(0, 3), 1);
        Due.read(x, "w00 70;");
        Due.is("as much as all others: the least as bits", x.flood(0, 3), 1);
        Due.read(x, "w00 71;");
        Due.is("the others", x.flood(0, 3), 14);
        Due.read(x, "w00 0;w01 0;w02 0;w03 0;");
        Due.is("all of no worth", x.flood(0, 3), 1);
    }

    private static void freesForgetsWhoOwns() {
        NoTwoTouch x = Due.with("f1;f9;f9;h01;h12;p5;o00;");
        Due.is("as if nobody owned", x.frees(), 12);
        x = Due.with("f1;f1;f1;h01;h12;p5;o01;");
        Due.is("none by which it is more", x.frees(), -4);
    }

    private static void freesOfSeveral() {
        NoTwoTouch x = Due.with("f1;f1;f1;f1;h23;h13;h12;p5;");
        Due.is("the least", x.frees(), 12);
        Due.read(x, "w03 11;");
        Due.is("more by most", x.frees(), 13);
        Due.is("no fields", new NoTwoTouch().frees(), -4);
    }

    private static void gameIs(String land, int field, int value) {
        NoTwoTouch x = Due.with(land);
        Due.is("game of " + land, x.game(0), field < 0 ? 0 : 1);
        Due.is("field of " + land, x.game(1), field);
        Due.is("value of " + land, x.value(), value);
    }

    private static void gameOfWhatIsOwned() {
        gameIs("f1;f1;h01;p0;p0;o00;", -4, -1);
        gameIs("f1;f1;h01;p0;p0;o10;", 1, 1);
        gameIs("f1;f1;h01;p0;p0;p0;o20;", 1, 1);
        gameIs("f1;f1;c01;p0;p0;o10;", 1, 1);
        gameIs("f1;f1;f1;h01;h02l;p0;p0;o00;", -4, 0);
        gameIs("f1;p0;p0;o00;", -4, 0);
        gameIs("f1;f1;h01;p0;p0k0;x01;o10;", 1, 1);
    }

    private static void valueBelowZero() {
        gameIs(SIX + "h01;h02;h03;h04;h05;p0;p0;o00;", -4, -5);
        gameIs(SIX + "h01;h02;h03;h04;h05;p0;p0;o10;", 1, 5);
        gameIs("p0;p0;", -4, 0);
    }

    private static void deedsAre(NoTwoTouch x, int bits, int... row) {
        Due.bytes(x, 2, row);
        Due.is("deeds", x.deeds(2, 0), bits);
        Due.is("how many", x.deeds(2, 1), bits < 0 ? bits : Integer.bitCount(bits));
    }

    private static void deedsOfAllYears() {
        NoTwoTouch x = Due.with("f1;f1;h01;p5;p5;");
        for (int year = 0; year < 10; year++) {
            deedsAre(x, 1, 0, 0, year, 0, 1, year);
            deedsAre(x, 0, 0, 0, year, 0, 1, 9 - year);
        }
        for (int year : new int[] {10, -1, 127, -128}) {
            deedsAre(x, -13, 0, 0, year);
            deedsAre(x, -13, 0, 0, 0, 0, 0, year);
        }
        deedsAre(x, 0, 0, 0, 256);
    }

    private static void deedsUpToEight() {
        NoTwoTouch x = Due.with("f1;f1;h01;p5;p5;");
        int[] eight = new int[24];
        for (int i = 0; i < 8; i++) {
            eight[3 * i + 1] = i % 2;
            eight[3 * i + 2] = i / 2;
        }
        deedsAre(x, 85, eight);
        eight[0] = 1;
        deedsAre(x, 84, eight);
        deedsAre(x, -13, new int[27]);
        deedsAre(x, -13, new int[25]);
        deedsAre(x, -13, new int[23]);
        deedsAre(x, 0, new int[24]);
        deedsAre(x, 0);
        // One against three that are alike.
        deedsAre(x, 8, 0, 0, 1, 0, 0, 1, 0, 0, 1, 0, 1, 1);
    }

    private static void lotsAre(String land, int z, int owned, int worth) {
        NoTwoTouch x = Due.with(land);
        Due.is("lots of " + z, x.lots(z, 0), owned);
        Due.is("worth of lots of " + z, x.lots(z, 1), worth);
        Due.is("in mind", x.lots(z, 0), owned);
    }

    /** The DRAWS of these seeds were counted out apart from the program. */
    private static void lotsOfSeeds() {
        String worths = "w00 1;w01 2;w02 4;w03 8;w04 16;w05 32;";
        // Of one and nobody: 0 takes what is drawn as 0.
        lotsAre(SIX + "p0;" + worths, 0, 4, 1 + 2 + 4 + 16);
        lotsAre(SIX + "p0;" + worths, Integer.MIN_VALUE, 4, 1 + 2 + 4 + 16);
        lotsAre(SIX + "p0;" + worths, 1 << 30, 4, 1 + 2 + 4 + 16);
        lotsAre(SIX + "p0;" + worths, 1, 2, 1 + 2);
        lotsAre(SIX + "p0;" + worths, -1, 3, 4 + 8 + 32);
        lotsAre(SIX + "p0;" + worths, Integer.MAX_VALUE, 3, 4 + 8 + 32);
        lotsAre(SIX + "p0;" + worths, -5, 3, 1 + 8 + 16);
        lotsAre(SIX + "p0;" + worths, -12345, 4, 1 + 2 + 16 + 32);
        // Of two and nobody: -1 draws 2 2 1 0 1 2, 5 draws 1 0 2 2 2 2.
        String second = "w10 50;w12 52;w14 54;w15 55;";
        lotsAre(SIX + "p0;p0;" + worths + second, -1, 3, 52 + 8 + 54);
        lotsAre(SIX + "p0;p0;" + worths + second, 5, 2, 50 + 2);
        // Of three and nobody: -5 draws 0 3 3 0 0 1.
        lotsAre(SIX + "p0;p0;p0;" + worths + second, -5, 4, 1 + 8 + 16 + 55);
        lotsAre(SIX, -5, 0, 0);
        lotsAre("p0;p0;", -5, 0, 0);
    }

    private static void lotsAreDrawnForNobodysAlone() {
        // -5 draws 0 3 3 0: for fields 1, 3, 4 and 5, as 0 and 2 are owned.
        lotsAre(SIX + "p0;p0;p0;w20 5;w01 7;w22 3;w05 9;o20;o22;", -5, 4, 5 + 7 + 3 + 9);
        lotsAre("f1;f1;p0;o00;o01;", -1, 2, 20);
    }

    private static void lotsNotLawfulUseTheirDraw() {
        // 0 draws 0 0 0 1, and 1 draws 0 0 1 1: the second FIELD can't be owned beside the first.
        lotsAre("f1;f2;f3;f4;h01;p0;", 0, 2, 40);
        lotsAre("f1;f2;f3;f4;h01;p0;", 1, 1, 10);
        lotsAre("f1;f2;f3;f4;h01l;p0;", 1, 2, 30);
        lotsAre("f1;f2;f3;f4;c01;p0;x10;", 1, 1, 10);
        // 5 draws 1 0 2 below 3.
        lotsAre("f1;f2;f3;h01;p0;p0k0;x00;", 5, 2, 30);
        lotsAre("f1;f2;f3;h01;p0;p0k0;x01;", 5, 1, 10);
    }

    private static void judgedIs(NoTwoTouch x, int due, int... row) {
        Due.bytes(x, 2, row);
        Due.is("judged", x.judge(2), due);
    }

    private static void judgedSizes() {
        NoTwoTouch x = Due.with("f1;f1;h01;p5;");
        judgedIs(x, -4);
        judgedIs(x, 1, 0);
        judgedIs(x, -4, 0, 0);
        judgedIs(x, 3, 0, 0, 0);
        judgedIs(x, -4, new int[100]);
        judgedIs(x, 99, new int[99]);
    }

    private static void judgedOneByOne() {
        NoTwoTouch x = Due.with("f1;f1;h01;p5;p5;");
        judgedIs(x, -4, 0, 0, 9, 0, 0, 1, 9, 1);
        judgedIs(x, 2, 0, 0, 0, 1, 9, 0);
        judgedIs(x, 0, 2, 0);
        judgedIs(x, 0, 8, 0);
        judgedIs(x, 0, 10, 0);
        judgedIs(x, 0, -1, 0);
        judgedIs(x, 0, 0, 2);
        judgedIs(x, 0, 9, 2);
        judgedIs(x, 0, 0, -1);
        judgedIs(x, 2, 0, 0, 1, 2, 0, 1, 0);
        judgedIs(x, -4, 0, 0, 1, 1, 1, 1);
    }

    private static void imageIsTakenAnew() {
        NoTwoTouch x = new NoTwoTouch();
        Due.is("none", x.restore(), -3);
        Due.is("empty", x.image(), 0);
        Due.read(x, SIX);
        Due.is("restored", x.restore(), 0);
        Due.read(x, SIX);
        Due.is("anew", x.image(), 6);
        Due.is("restored", x.restore(), 6);
        Due.is("there", x.count(0), 6);
        Due.is("no room", Due.read(x, "f1;"), -2000);
    }

    private static void imageHasTheLaw() {
        NoTwoTouch x = Due.with("f1;x10;");
        x.image();
        x.law(0, 0);
        x.law(1, 1);
        x.restore();
        Due.is("corners", x.law(0, 1), 1);
        Due.is("kin", x.law(1, 0), 0);
        x.law(0, 0);
        x.restore();
        Due.is("the image stays as it was", x.law(0, 0), 1);
    }

    private static void countsOfNothing() {
        NoTwoTouch x = new NoTwoTouch();
        for (int what = 0; what < 8; what++) {
            Due.is("count " + what, x.count(what), 0);
        }
        NoTwoTouch y = Due.with("f9;f9;f9;f9;f9;f9;p999;p999;p999;");
        Due.is("acres", y.count(2), 54);
        Due.is("coins", y.count(7), 2997);
        Due.is("owned", y.count(3), 0);
    }

    private static void shelvesAreEight() {
        NoTwoTouch x = new NoTwoTouch();
        for (int d = 0; d < 8; d++) {
            Due.is("nothing at first", x.fee(d), -11);
            Due.is("row", x.row(d, d % 3, d), 0);
        }
        for (int d = 0; d < 8; d++) {
            Due.is("the last", Due.thrownByElement(x, d, d - 1), d == 0 ? 2 : 0);
            Due.is("behind it", Due.thrownByElement(x, d, d), 2);
            Due.is("nothing", x.keep(d, 0, 99, -99), 0);
            Due.is("nothing again", x.put(d, 0, 0), -11);
        }
    }

    private static void rowsUpToAHundred() {
        NoTwoTouch x = new NoTwoTouch();
        for (int sort = 0; sort < 3; sort++) {
            Due.is("a hundred", x.row(3, sort, 100), 0);
            Due.is("the last", x.put(3, 99, 5), 0);
            Due.is("behind it", x.put(3, 100, 5), -13);
            Due.is("one more", x.row(3, sort, 101), -1);
            Due.is("still there", x.element(3, 99), 5);
            Due.is("none", x.row(3, sort, 0), 0);
            Due.is("no place", x.put(3, 0, 5), -13);
            Due.is("none of none", x.copy(3, 0, 3, 0, 0), 0);
            Due.is("a hundred again", x.row(3, sort, 100), 0);
            Due.is("0 at first", x.element(3, 99), 0);
        }
    }

    private static void bitsAre(int sort, int v, long due) {
        NoTwoTouch x = new NoTwoTouch();
        x.row(0, sort, 3);
        Due.is("put", x.put(0, 1, v), 0);
        Due.is("bits of " + v, x.element(0, 1), due);
        Due.is("the one ahead", x.element(0, 0), 0);
        Due.is("the one behind", x.element(0, 2), 0);
    }

    private static void lowestBits() {
        int[] values = {
            0, 1, -1, 127, 128, 129, 255, 256, 257, -127, -128, -129, -255, -256, -257, 32767, 32768, 65535, 65536,
            -32768, -32769, -65536, 0x12345678, 0x89abcdef, Integer.MAX_VALUE, Integer.MIN_VALUE,
        };
        for (int v : values) {
            long low = v & 255;
            long lower = v & 65535;
            bitsAre(0, v, low > 127 ? low - 256 : low);
            bitsAre(1, v, lower > 32767 ? lower - 65536 : lower);
            bitsAre(2, v, v);
        }
    }

    private static void copiesUpToTheEnd() {
        NoTwoTouch x = new NoTwoTouch();
        x.row(0, 1, 100);
        x.row(1, 1, 100);
        for (int i = 0; i < 100; i++) {
            x.put(0, i, i - 300);
        }
        Due.is("all", x.copy(0, 0, 1, 0, 100), 100);
        Due.is("the last", x.element(1, 99), -201);
        Due.is("one beyond", x.copy(0, 1, 1, 0, 100), -13);
        Due.is("one beyond there", x.copy(0, 0, 1, 1, 100), -13);
        Due.is("up by one", x.copy(0, 0, 0, 1, 99), 99);
        Due.is("the last but one's", x.element(0, 99), -202);
        Due.is("the first stays", x.element(0, 0), -300);
        Due.is("down by one", x.copy(1, 1, 1, 0, 99), 99);
        Due.is("the second's", x.element(1, 0), -299);
        Due.is("the last stays", x.element(1, 99), -201);
        Due.is("none, at the end", x.copy(0, 100, 1, 100, 0), 0);
        Due.is("none, beyond the end", x.copy(0, 101, 1, 0, 0), -13);
        Due.is("none, beyond the end there", x.copy(0, 0, 1, 101, 0), -13);
    }

    private static void whatIsReadStays() {
        NoTwoTouch x = Due.with("f1;f1;p5;");
        int[] row = {0, 1, 0};
        Due.bytes(x, 2, row);
        x.judge(2);
        x.chain(2);
        x.deeds(2, 0);
        x.land(2);
        x.land(0);
        x.image();
        x.restore();
        for (int i = 0; i < row.length; i++) {
            Due.is("element " + i, x.element(2, i), row[i]);
        }
        Due.is("the text", x.element(0, 0), 'f');
        Due.is("its last", x.element(0, 8), ';');
    }
}
