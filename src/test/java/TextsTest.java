/** Promise 2, sentence by sentence: how the text of a land is read, and where its faults are. */
public final class TextsTest {
    private static final String ALL = "f1;f9;f5;h01;h12l;c20;p0;p99k0;p999k1;w00 0;w21 99;o00;o21;x01;x10;";

    public static void main(String[] args) {
        everyEndTooEarly();
        everySignThatCantBe();
        signsBesideDigits();
        signsBesideLetters();
        atLeastOneStatement();
        hundredBytes();
        acresAreOneToNine();
        fieldsAreSix();
        peopleAreThree();
        coinsHaveOneToThreeDigits();
        worthsHaveOneOrTwoDigits();
        noZeroAheadOfAnother();
        kinCameBefore();
        fieldsTouchOnce();
        twoFieldsAreUnlike();
        peopleAndFieldsAreThere();
        lawDigits();
        ownedAgain();
        kindOneGoesAhead();
        onWhatThoseAheadMade();
        withOneNothingComes();
        unlawfulComes();
        bytesKeepTheirLowestBits();
        Due.end();
    }

    private static void fault(String land, String text, int due) {
        NoTwoTouch x = Due.with(land);
        String before = landOf(x);
        Due.is("land of " + text, Due.read(x, text), due);
        Due.is("nothing comes of " + text, landOf(x).equals(before) ? 1 : 0, 1);
    }

    /** The state without the text in shelf 0. */
    private static String landOf(NoTwoTouch x) {
        x.keep(0, 0, 0, 0);
        return State.of(x);
    }

    private static void comes(String land, String text, int statements) {
        Due.is("land of " + text, Due.read(Due.with(land), text), statements);
    }

    private static void everyEndTooEarly() {
        int statements = 0;
        for (int size = 0; size <= ALL.length(); size++) {
            boolean whole = size > 0 && ALL.charAt(size - 1) == ';';
            statements += whole ? 1 : 0;
            if (whole) {
                comes("", ALL.substring(0, size), statements);
            } else if (size == 0 || ALL.charAt(size - 1) != ';') {
                fault("", ALL.substring(0, size), -1000 - size);
            }
        }
    }

    /** In place of each sign one that can be nowhere: its place is told, also where what is ahead isn't as told. */
    private static void everySignThatCantBe() {
        for (int place = 0; place < ALL.length(); place++) {
            fault("", ALL.substring(0, place) + "?" + ALL.substring(place + 1), -1000 - place);
            fault("f1;f1;f1;f1;f1;", ALL.substring(0, place) + "F" + ALL.substring(place + 1), -1000 - place);
        }
    }

    private static void signsBesideDigits() {
        for (char sign : new char[] {'/', ':'}) {
            fault("f1;p1;", "f" + sign + ";", -1001);
            fault("f1;p1;", "h" + sign + "1;", -1001);
            fault("f1;p1;", "c0" + sign + ";", -1002);
            fault("f1;p1;", "p" + sign + ";", -1001);
            fault("f1;p1;", "p1" + sign + ";", -1002);
            fault("f1;p1;", "p1k" + sign + ";", -1003);
            fault("f1;p1;", "w00 " + sign + ";", -1004);
            fault("f1;p1;", "w00 1" + sign + ";", -1005);
            fault("f1;p1;", "o" + sign + "0;", -1001);
            fault("f1;p1;", "x0" + sign + ";", -1002);
        }
    }

    private static void signsBesideLetters() {
        for (char letter = 0; letter < 128; letter++) {
            if ("fhcpwox".indexOf(letter) < 0) {
                fault("f1;f1;p1;p1;", letter + "01;", -1000);
            }
        }
        fault("", "F1;", -1000);
        fault("f1;f1;", "h01k;", -1003);
        fault("f1;f1;", "h01m;", -1003);
        fault("f1;f1;", "h01L;", -1003);
        fault("p1;", "p5j0;", -1002);
        fault("p1;", "p5l0;", -1002);
        fault("p1;f1;", "w00\t5;", -1003);
        fault("p1;f1;", "w00!5;", -1003);
        fault("", "f1:", -1002);
        fault("", "f1<", -1002);
        fault("", " f1;", -1000);
        fault("", "f1; f1;", -1003);
        fault("", "f1;\n", -1003);
    }

    private static void atLeastOneStatement() {
        fault("", "", -1000);
        fault("f1;", "", -1000);
        fault("", ";", -1000);
        comes("", "x00;", 1);
    }

    private static void hundredBytes() {
        comes("", "x00;".repeat(25), 25);
        fault("", "x00;".repeat(24) + "x00", -1099);
        fault("", "x00;".repeat(24) + "f1;f", -1100);
        fault("", "x00;".repeat(24) + "x02;", -2096);
        fault("", "x00;".repeat(24) + "x00?", -1099);
    }

    private static void acresAreOneToNine() {
        fault("", "f0;", -2000);
        comes("", "f1;", 1);
        comes("", "f9;", 1);
        fault("", "f10;", -1002);
    }

    private static void fieldsAreSix() {
        comes("", "f1;f1;f1;f1;f1;f1;", 6);
        fault("", "f1;f1;f1;f1;f1;f1;f1;", -2018);
        fault("f1;f1;f1;f1;f1;f1;", "f1;", -2000);
    }

    private static void peopleAreThree() {
        comes("", "p1;p1;p1;", 3);
        fault("", "p1;p1;p1;p1;", -2009);
        fault("p1;p1;p1;", "p1k0;", -2000);
    }

    private static void coinsAre(String text, int due) {
        NoTwoTouch x = Due.with(text);
        Due.is("coins of " + text, x.person(0, 0), due);
    }

    private static void coinsHaveOneToThreeDigits() {
        coinsAre("p0;", 0);
        coinsAre("p7;", 7);
        coinsAre("p10;", 10);
        coinsAre("p100;", 100);
        coinsAre("p999;", 999);
        fault("", "p;", -1001);
        fault("", "p1000;", -1004);
        fault("", "p9999;", -1004);
        fault("p1;", "p100k;", -1005);
    }

    private static void worthIs(String text, int due) {
        NoTwoTouch x = Due.with("f5;p1;" + text);
        Due.is("worth of " + text, x.worth(0, 0), due);
    }

    private static void worthsHaveOneOrTwoDigits() {
        worthIs("", 50);
        worthIs("w00 0;", 0);
        worthIs("w00 9;", 9);
        worthIs("w00 10;", 10);
        worthIs("w00 99;", 99);
        worthIs("w00 99;w00 3;", 3);
        fault("f5;p1;", "w00 ;", -1004);
        fault("f5;p1;", "w00 100;", -1006);
    }

    private static void noZeroAheadOfAnother() {
        fault("", "p00;", -1002);
        fault("", "p01;", -1002);
        fault("", "p010;", -1002);
        coinsAre("p101;", 101);
        fault("f5;p1;", "w00 00;", -1005);
        fault("f5;p1;", "w00 09;", -1005);
        worthIs("w00 90;", 90);
    }

    private static void kinCameBefore() {
        fault("", "p1k0;", -2000);
        comes("p1;", "p1k0;", 1);
        fault("p1;", "p1k1;", -2000);
        fault("p1;", "p1k9;", -2000);
        fault("p1;p1;", "p1k2;", -2000);
        comes("p1;p1;", "p1k1;", 1);
        NoTwoTouch x = Due.with("p1;p1;p1k1;");
        Due.is("kin of nobody", x.person(1, 1), -4);
        Due.is("kin of 1", x.person(2, 1), 1);
    }

    private static void fieldsTouchOnce() {
        for (String way : new String[] {"h01;", "h10l;", "c01;"}) {
            for (String other : new String[] {"h01;", "h10;", "h01l;", "h10l;", "c01;", "c10;"}) {
                fault("f1;f1;" + way, other, -2000);
            }
        }
    }

    private static void twoFieldsAreUnlike() {
        for (int f = 0; f < 10; f++) {
            fault("f1;f1;", "h" + f + f + ";", -2000);
            fault("f1;f1;", "h" + f + f + "l;", -2000);
            fault("f1;f1;", "c" + f + f + ";", -2000);
        }
    }

    private static void peopleAndFieldsAreThere() {
        String land = "f1;f1;p1;p1;";
        comes(land, "h01;w11 5;o11;", 3);
        fault(land, "h02;", -2000);
        fault(land, "h20;", -2000);
        fault(land, "c12;", -2000);
        fault(land, "c21;", -2000);
        fault(land, "w20 5;", -2000);
        fault(land, "w02 5;", -2000);
        fault(land, "w90 5;", -2000);
        fault(land, "o20;", -2000);
        fault(land, "o02;", -2000);
        fault(land, "o90;", -2000);
    }

    private static void lawDigits() {
        for (int corners = 0; corners < 2; corners++) {
            for (int kin = 0; kin < 2; kin++) {
                NoTwoTouch x = Due.with("x" + (1 - corners) + (1 - kin) + ";x" + corners + kin + ";");
                Due.is("corners", x.law(0, 0), corners);
                Due.is("kin", x.law(1, 0), kin);
            }
        }
        fault("", "x20;", -2000);
        fault("", "x02;", -2000);
        fault("", "x99;", -2000);
        fault("", "x1;", -1002);
        fault("", "x111;", -1003);
    }

    private static void ownedAgain() {
        NoTwoTouch x = Due.with("f1;p1;p1;o00;o00;o10;");
        Due.is("the last one's", x.field(0, 1), 1);
        Due.is("no more the first one's", x.person(0, 2), 0);
    }

    private static void kindOneGoesAhead() {
        fault("", "f0;h11;o00;f", -1012);
        fault("", "f0;z", -1003);
        fault("", "f0", -1002);
        fault("", "f0;h00;", -2000);
        fault("", "f1;h00;o00;", -2003);
    }

    private static void onWhatThoseAheadMade() {
        comes("", "f1;f1;h01;p1;p1k0;o11;w11 5;", 7);
        fault("", "h01;f1;f1;", -2000);
        fault("", "f1;o00;p1;", -2003);
        fault("", "f1;f1;h01;c01;", -2010);
        fault("", "p1;w00 5;f1;", -2003);
    }

    private static void withOneNothingComes() {
        fault("f1;f1;p1;", "f1;h01;p1;w00 5;o00;x11;f0;", -2024);
        fault("f1;f1;p1;", "f1;h01;p1;w00 5;o00;x11;f1", -1026);
    }

    private static void unlawfulComes() {
        NoTwoTouch x = Due.with("f1;f1;h01;p1;o00;o01;");
        Due.is("unlawful", x.lawful(), 0);
        Due.is("as told", x.firstUnlawful(), 1);
    }

    private static void bytesKeepTheirLowestBits() {
        NoTwoTouch x = new NoTwoTouch();
        Due.bytes(x, 0, 'f' - 256, '1' + 256, ';' + 65536);
        Due.is("lowest bits", x.land(0), 1);
        Due.bytes(x, 0, 'f' + 128, '1', ';');
        Due.is("another bit", x.land(0), -1000);
        Due.bytes(x, 0, 'f', '1', ';', 0);
        Due.is("a byte of 0", x.land(0), -1003);
    }
}
