/** Promises 21 to 24: game, value, deeds, lots. */
public final class GamesTest {
    public static void main(String[] args) {
        game();
        gameRefusals();
        value();
        deeds();
        deedRefusals();
        lots();
        Due.end();
    }

    private static void gameIs(String land, int wins, int field, int value) {
        NoTwoTouch x = Due.with(land);
        Due.is("game of " + land, x.game(0), wins);
        Due.is("field of " + land, x.game(1), field);
        Due.is("value of " + land, x.value(), value);
        Due.is("nothing is taken", x.count(3), land.length() - land.replace("o", "").length());
    }

    private static void game() {
        gameIs("p0;p0;", 0, -4, 0);
        gameIs("f1;p0;p0;", 1, 0, 1);
        gameIs("f1;f1;p0;p0;", 0, -4, 0);
        gameIs("f1;f1;f1;p0;p0;", 1, 0, 1);
        gameIs("f1;f1;f1;h01;h12;p0;p0;", 0, -4, 0);
        gameIs("f1;f1;c01;p0;p0;", 0, -4, 0);
        gameIs("f1;f1;f1;h01;h12l;h02;p0;p0;", 0, -4, 0);
        gameIs("f1;f1;f1;f1;f1;h01;h12;h23;h34;h40l;c02;c13;p0;p0;o00;o11;x10;", 1, 4, 1);
        gameIs("f1;f1;p0;p0;p0;o20;", 1, 1, 1);
        // What is owned now bars, too, for each its own.
        gameIs("f1;f1;f1;h01;h02;p0;p0;o10;", 1, 1, 2);
        gameIs("f1;f1;f1;h01;h02;p0;p0;o00;", 0, -4, -2);
        gameIs("f1;f1;f1;c01;c02;p0;p0;o00;x10;", 0, -4, -2);
        // Kin may own what bars.
        gameIs("f1;f1;h01;p0;p0k0;o10;x01;", 1, 1, 1);
    }

    private static void gameRefusals() {
        NoTwoTouch x = Due.with("f1;p0;");
        Due.is("one alone", x.game(0), -3);
        Due.is("one alone", x.game(1), -3);
        Due.is("what ahead of all", x.game(2), -1);
        Due.is("what -1", x.game(-1), -1);
        Due.is("value of one alone", x.value(), -1000000003);
        Due.read(x, "p0;");
        Due.is("two", x.game(0), 1);
        Due.is("two", x.value(), 1);
        Due.is("what 2", x.game(2), -1);
    }

    private static void value() {
        NoTwoTouch x = Due.with("f1;f1;f1;f1;f1;f1;p0;p0;");
        Due.is("taken by turns", x.value(), 0);
        x.owns(0, 3);
        Due.is("one less to take", x.value(), 1);
        // 1 takes on while 0 waits.
        x = Due.with("f1;f1;f1;f1;h01;h02;h03;p0;p0;o00;");
        Due.is("0 waits", x.value(), -3);
        x.owns(1, 0);
        Due.is("1 waits", x.value(), 3);
        x = Due.with("f1;f1;f1;f1;h01;h12;h23;p0;p0;");
        Due.is("a row of four", x.value(), 0);
    }

    private static void deedsAre(NoTwoTouch x, int bits, int many, int... row) {
        Due.bytes(x, 2, row);
        Due.is("deeds", x.deeds(2, 0), bits);
        Due.is("how many", x.deeds(2, 1), many);
    }

    private static void deeds() {
        NoTwoTouch x = Due.with("f1;f1;f1;h01;c12;h02l;p0;p0k0;x01;");
        deedsAre(x, 0, 0);
        deedsAre(x, 0, 0, 0, 0, 0);
        deedsAre(x, 1, 1, 0, 0, 5, 0, 1, 5);
        deedsAre(x, 0, 0, 0, 0, 5, 0, 1, 6);
        deedsAre(x, 0, 0, 0, 0, 5, 1, 1, 5);
        deedsAre(x, 1, 1, 0, 0, 9, 1, 0, 9);
        deedsAre(x, 1, 1, 0, 2, 9, 1, 2, 9);
        deedsAre(x, 0, 0, 0, 1, 9, 1, 2, 9);
        deedsAre(x, 0, 0, 0, 0, 9, 0, 0, 9);
        deedsAre(x, 0, 0, 0, 0, 9, 0, 2, 9);
        deedsAre(x, 0, 0, 0, 1, 9, 0, 2, 9);
        deedsAre(x, 4, 1, 0, 0, 3, 0, 0, 3, 0, 1, 3);
        deedsAre(x, 3, 2, 0, 0, 3, 0, 1, 4, 0, 1, 3, 1, 1, 4);
        deedsAre(x, 85, 4, 0, 0, 0, 0, 1, 0, 0, 0, 1, 0, 1, 1, 0, 0, 2, 0, 1, 2, 0, 0, 3, 0, 1, 3);
        x.law(0, 1);
        deedsAre(x, 1, 1, 0, 1, 9, 0, 2, 9);
        deedsAre(x, 2, 1, 0, 0, 9, 0, 1, 9, 0, 2, 9);
        Due.is("only told", x.count(3), 0);
    }

    private static void deedsRefused(NoTwoTouch x, int... row) {
        deedsAre(x, -13, -13, row);
    }

    private static void deedRefusals() {
        NoTwoTouch x = Due.with("f1;f1;p0;p0;");
        Due.is("shelf -1", x.deeds(-1, 0), -1);
        Due.is("shelf 8", x.deeds(8, 0), -1);
        Due.is("what 2", x.deeds(2, 2), -1);
        Due.is("what -1", x.deeds(2, -1), -1);
        Due.is("nothing", x.deeds(2, 0), -11);
        Due.keep(x, 0, 0);
        Due.is("a move", x.deeds(1, 0), -12);
        x.row(2, 1, 3);
        Due.is("shorts", x.deeds(2, 0), -12);
        x.row(2, 2, 3);
        Due.is("ints", x.deeds(2, 0), -12);
        deedsRefused(x, 0);
        deedsRefused(x, 0, 0);
        deedsRefused(x, 0, 0, 0, 0);
        deedsRefused(x, 2, 0, 0);
        deedsRefused(x, 9, 0, 0);
        deedsRefused(x, -1, 0, 0);
        deedsRefused(x, 0, 2, 0);
        deedsRefused(x, 0, -1, 0);
        deedsRefused(x, 0, 0, 10);
        deedsRefused(x, 0, 0, -1);
        deedsRefused(x, 0, 0, 0, 0, 0, 10);
        deedsRefused(x, new int[27]);
        deedsAre(x, 0, 0, new int[24]);
    }

    private static void lots() {
        NoTwoTouch x = Due.with("f1;f2;f3;f4;h01;p0;p0;o02;w02 7;");
        for (int z : new int[] {0, 1, 5, -1, 77, 123456789, Integer.MIN_VALUE, Integer.MAX_VALUE}) {
            lotsOf(x, z);
        }
        Due.is("in mind", x.count(3), 1);
        Due.is("what 2", x.lots(0, 2), -1);
        Due.is("what -1", x.lots(0, -1), -1);
        x.owns(0, 0);
        x.owns(0, 1);
        // No owning is lawful any more, so none that is drawn counts.
        Due.is("unlawful now", x.lots(1, 0), 3);
        Due.is("worth", x.lots(1, 1), 37);
        x = Due.with("f1;f1;");
        Due.is("nobody there", x.lots(3, 0), 0);
        Due.is("no worth", x.lots(3, 1), 0);
    }

    /** The land that lots makes: field 2 is owned, 0 and 1 bar each other. */
    private static void lotsOf(NoTwoTouch x, int z) {
        int[] owners = {2, 2, 0, 2};
        long seed = z;
        for (int f : new int[] {0, 1, 3}) {
            seed = (int) (seed * 1103515245L + 12345L);
            int draw = (int) ((seed & 0x7fffffffL) / 65536 % 3);
            owners[f] = f == 1 && draw == owners[0] ? 2 : draw;
        }
        int owned = 0;
        int worth = 0;
        for (int f = 0; f < 4; f++) {
            owned += owners[f] < 2 ? 1 : 0;
            worth += owners[f] < 2 ? x.worth(owners[f], f) : 0;
        }
        Due.is("lots of " + z, x.lots(z, 0), owned);
        Due.is("worth of lots of " + z, x.lots(z, 1), worth);
    }
}
