/** Promises 14 to 20: fewest, most, best, withMusts, chain, flood, frees. */
public final class BestTest {
    private static final String RING = "f1;f2;f3;f4;f5;f6;h01;h12;h23;h34;h40;";

    public static void main(String[] args) {
        fewest();
        most();
        best();
        withMusts();
        chain();
        chainOnWhatIsRestored();
        chainRefusals();
        flood();
        frees();
        Due.end();
    }

    private static void fewest() {
        NoTwoTouch x = new NoTwoTouch();
        Due.is("no fields", x.fewest(-1), 0);
        Due.is("no field", x.fewest(0), -1);
        Due.read(x, "f1;");
        Due.is("one field", x.fewest(-1), 1);
        x = Due.with(RING);
        Due.is("an odd ring", x.fewest(-1), 3);
        int[] numbers = {0, 1, 0, 1, 2, 0};
        for (int f = 0; f < 6; f++) {
            Due.is("number of " + f, x.fewest(f), numbers[f]);
        }
        Due.is("field 6", x.fewest(6), -1);
        Due.is("field -2", x.fewest(-2), -1);
        x = Due.with("f1;f1;f1;f1;f1;f1;h01;h02;h03;h04;h05;h12;h13;h14;h15;h23;h24;h25;h34;h35;c45;");
        Due.is("all but a corner", x.fewest(-1), 5);
        Due.is("field 5", x.fewest(5), 4);
        x.law(0, 1);
        Due.is("all", x.fewest(-1), 6);
        for (int f = 0; f < 6; f++) {
            Due.is("field " + f, x.fewest(f), f);
        }
        x = Due.with("f1;f1;f1;f1;h02;h13;h03;p0;p0k0;x01;");
        Due.is("kin do not matter", x.fewest(-1), 2);
        Due.is("its end", x.fewest(1), 0);
        // The first free number for each would need three here.
        x = Due.with("f1;f1;f1;f1;h02;h23;h31;");
        Due.is("a path", x.fewest(-1), 2);
        Due.is("its end", x.fewest(1), 1);
    }

    private static void most() {
        NoTwoTouch x = Due.with("f1;f2;f3;h01;h12;p5;p5k0;w00 9;w01 20;w02 11;x01;");
        Due.is("several, the least", x.most(0, 0), 2);
        Due.is("worth", x.most(0, 1), 20);
        Due.is("to another", x.most(1, 0), 5);
        Due.is("worth to it", x.most(1, 1), 40);
        x.owns(1, 1);
        Due.is("another's", x.most(0, 0), 5);
        Due.is("own, kin do not matter", x.most(1, 0), 5);
        x.owns(1, 0);
        Due.is("two are another's", x.most(0, 1), 11);
        x = Due.with("f1;p0;w00 0;");
        Due.is("of no worth", x.most(0, 0), 0);
        Due.is("0", x.most(0, 1), 0);
        Due.is("person 1", x.most(1, 0), -1);
        Due.is("person -1", x.most(-1, 0), -1);
        Due.is("what 2", x.most(0, 2), -1);
        Due.is("what -1", x.most(0, -1), -1);
    }

    private static void best() {
        NoTwoTouch x = Due.with("f1;f2;f3;h01;h12;p5;w01 40;");
        Due.is("several", x.best(-1), 40);
        Due.is("nobody first", x.best(0), -4);
        Due.is("then 0", x.best(1), 0);
        Due.is("nobody", x.best(2), -4);
        Due.is("field 3", x.best(3), -1);
        Due.is("field -2", x.best(-2), -1);
        Due.read(x, "p5k0;");
        Due.is("two", x.best(-1), 80);
        Due.is("1 has", x.best(0), 1);
        Due.is("0 has", x.best(1), 0);
        x.law(1, 1);
        Due.is("two who are kin", x.best(-1), 40);
        Due.is("what is owned does not matter", x.owns(0, 0), 9);
        Due.is("as ahead", x.best(0), -4);
        Due.is("nothing comes", x.count(3), 1);
        x = Due.with("f1;f1;p0;p0;w00 0;w10 0;");
        Due.is("of no worth", x.best(0), -4);
        Due.is("the least of people", x.best(1), 0);
        x = Due.with("f1;");
        Due.is("nobody there", x.best(-1), 0);
        Due.is("nobody's", x.best(0), -4);
    }

    private static void withMusts() {
        NoTwoTouch x = Due.with("f1;f2;f3;h01;h12;p5;p5k0;w01 40;o00;");
        Due.is("worth", x.withMusts(-1), 60);
        Due.is("stays", x.withMusts(0), 0);
        Due.is("1 has", x.withMusts(1), 1);
        Due.is("0 has", x.withMusts(2), 0);
        x.law(1, 1);
        Due.is("kin", x.withMusts(-1), 40);
        Due.is("nobody", x.withMusts(1), -4);
        x.owns(1, 1);
        Due.is("not lawful", x.withMusts(-1), -4);
        Due.is("for a field", x.withMusts(0), -4);
        Due.is("field 3", x.withMusts(3), -1);
        Due.is("field -2", x.withMusts(-2), -1);
        Due.is("none there", new NoTwoTouch().withMusts(-1), 0);
    }

    private static void chainIs(NoTwoTouch x, int want, int... owners) {
        Due.bytes(x, 2, owners);
        Due.is("chain", x.chain(2), want);
    }

    private static void chain() {
        NoTwoTouch x = Due.with("f1;f2;f3;h01;h12;p5;p5k0;o00;o11;o02;");
        chainIs(x, 0, 0, 1, 0);
        chainIs(x, 1, 9, 1, 0);
        chainIs(x, 1, 0, 9, 0);
        chainIs(x, 4, 1, 0, 1);
        chainIs(x, 4, 1, 0, 9);
        chainIs(x, 2, 9, 1, 9);
        chainIs(x, 2, 9, 9, 0);
        chainIs(x, -4, 0, 0, 9);
        Due.is("in mind", x.field(0, 1), 0);
        x.law(1, 1);
        chainIs(x, 0, 0, 1, 0);
        chainIs(x, 1, 0, 9, 0);
        chainIs(x, 4, 9, 1, 9);
        chainIs(x, 3, 1, 9, 9);
        chainIs(x, -4, 9, 1, 0);
        Due.is("none there", with0().chain(2), 0);
        x = Due.with("f1;f2;f3;f4;f5;f6;p5;p5;p5;");
        chainIs(x, 6, 0, 0, 0, 0, 0, 0);
        chainIs(x, 6, 2, 1, 0, 2, 1, 0);
        x.owns(0, 2);
        chainIs(x, 5, 0, 0, 0, 0, 0, 0);
        chainIs(x, 5, 1, 9, 2, 1, 1, 0);
        x = Due.with("f1;f1;f1;f1;f1;f1;p5;p5;p5;h01;h12;h23;h34;h45;h50;o00;o11;o02;o13;o04;o15;");
        chainIs(x, 9, 1, 0, 1, 0, 1, 0);
        chainIs(x, 8, 2, 0, 1, 0, 1, 0);
        chainIs(x, 7, 2, 0, 9, 0, 1, 9);
        chainIs(x, -4, 2, 0, 9, 0, 1, 1);
        // The one that bars both others is to be sold first, and comes again.
        x = Due.with("f1;f1;f1;p5;p5;h01;h02;o00;o01;o02;");
        chainIs(x, 4, 0, 1, 1);
    }

    private static void chainOnWhatIsRestored() {
        NoTwoTouch x = Due.with("f1;f1;p5;");
        x.image();
        Due.read(x, "f1;h01;p5;");
        x.restore();
        chainIs(x, 2, 0, 0);
        chainIs(x, -13, 1, 0);
    }

    private static NoTwoTouch with0() {
        NoTwoTouch x = new NoTwoTouch();
        Due.bytes(x, 2);
        return x;
    }

    private static void chainRefusals() {
        NoTwoTouch x = Due.with("f1;f2;f3;f1;h01;h23;p5;p5;o00;o01;o02;o03;");
        chainIs(x, 0, 0, 0, 0, 0);
        chainIs(x, -4, 9, 9, 9, 9);
        chainIs(x, -13, 0, 0, 0);
        chainIs(x, -13, 0, 0, 0, 0, 0);
        chainIs(x, -13, 0, 0, 0, 2);
        chainIs(x, -13, -1, 0, 0, 0);
        chainIs(x, -13, 0, 8, 0, 0);
        Due.is("shelf -1", x.chain(-1), -1);
        Due.is("shelf 8", x.chain(8), -1);
        Due.is("nothing", x.chain(3), -11);
        Due.keep(x, 0, 0);
        Due.is("a move", x.chain(1), -12);
        x.row(3, 1, 4);
        Due.is("shorts", x.chain(3), -12);
        x.row(3, 2, 4);
        Due.is("ints", x.chain(3), -12);
    }

    private static void flood() {
        NoTwoTouch x = Due.with("f1;f2;f3;h02l;c12;p5;p5k0;w00 30;w01 20;w11 5;o00;o01;o02;");
        Due.is("the less worth", x.flood(0, 1), 2);
        Due.is("a lane goes; several, the least", x.flood(2, 0), 1);
        Due.is("a corner becomes a hedge", x.flood(1, 2), 2);
        Due.is("in mind", x.touch(0, 2), 2);
        Due.is("nothing is sold", x.count(3), 3);
        x.owns(1, 1);
        Due.is("another's", x.flood(0, 1), 0);
        x.law(1, 1);
        Due.is("kin's, by its own worth", x.flood(0, 1), 2);
        x.law(0, 1);
        x.owns(0, 1);
        Due.is("others that bar, too", x.flood(0, 2), 4);
        Due.is("one twice", x.flood(1, 1), -1);
        Due.is("field 3", x.flood(0, 3), -1);
        Due.is("field 3", x.flood(3, 0), -1);
        Due.is("field -1", x.flood(-1, 0), -1);
    }

    private static void frees() {
        NoTwoTouch x = Due.with("f1;f2;f3;f4;h01;h12;h23;p5;");
        // Best is 60 (1 and 3); with a lane between 2 and 3 it is 80, with others 80 or less.
        Due.is("more by most", x.frees(), 23);
        Due.is("lanes in mind", x.count(5), 0);
        x = Due.with("f1;f1;f1;h01;h12;p5;w01 19;");
        Due.is("several, the least", x.frees(), 1);
        x = Due.with("f1;f1;f1;h01;h12l;c02;p5;p5;");
        Due.is("none more", x.frees(), -4);
        x = Due.with("f1;f1;h01l;p5;");
        Due.is("a lane already", x.frees(), -4);
        x = Due.with("f1;f1;c01;p5;x10;");
        Due.is("a corner", x.frees(), -4);
        x = Due.with("f1;f1;f1;h01;h12;h02;p5;o00;");
        Due.is("a triangle", x.frees(), 1);
        Due.is("nobody", Due.with("f1;f1;h01;").frees(), -4);
        x = Due.with("f1;f1;p5;");
        Due.is("a flood in mind", x.flood(0, 1), 0);
        Due.is("is none", x.frees(), -4);
    }
}
