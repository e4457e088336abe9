/** Promises 1 to 8: a new object, land, field, touch, person, worth, law, owns. */
public final class LandsTest {
    public static void main(String[] args) {
        newObject();
        landsRead();
        landRefusals();
        faultsOfSigns();
        faultsOfStatements();
        faultsChangeNothing();
        fieldsTold();
        touchesTold();
        peopleTold();
        worthsTold();
        laws();
        ownings();
        Due.end();
    }

    private static void newObject() {
        NoTwoTouch x = new NoTwoTouch();
        for (int what = 0; what < 8; what++) {
            Due.is("new count " + what, x.count(what), 0);
        }
        Due.is("new field", x.field(0, 0), -1);
        Due.is("new person", x.person(0, 0), -1);
        Due.is("new restore", x.restore(), -3);
        Due.is("new lawful", x.lawful(), 1);
        Due.is("new corners", x.law(0, 0), 0);
        Due.is("new kin", x.law(1, 0), 0);
        for (int d = 0; d < 8; d++) {
            Due.is("new shelf " + d, x.fee(d), -11);
        }
    }

    private static void landsRead() {
        NoTwoTouch x = new NoTwoTouch();
        Due.is("land", Due.read(x, "f3;f9;f1;h01;h12l;c02;p0;p999k0;p25k1;w10 0;w21 99;o02;o02;x11;"), 14);
        Due.is("acres 0", x.field(0, 0), 3);
        Due.is("acres 1", x.field(1, 0), 9);
        Due.is("hedge", x.touch(1, 0), 1);
        Due.is("lane", x.touch(1, 2), 2);
        Due.is("corner", x.touch(2, 0), 3);
        Due.is("coins 0", x.person(0, 0), 0);
        Due.is("coins 1", x.person(1, 0), 999);
        Due.is("coins 2", x.person(2, 0), 25);
        Due.is("kin 0", x.person(0, 1), -4);
        Due.is("kin 1", x.person(1, 1), 0);
        Due.is("kin 2", x.person(2, 1), 1);
        Due.is("worth 1 0", x.worth(1, 0), 0);
        Due.is("worth 2 1", x.worth(2, 1), 99);
        Due.is("worth 2 2", x.worth(2, 2), 10);
        Due.is("owner", x.field(2, 1), 0);
        Due.is("corners", x.law(0, 1), 1);
        Due.is("kin", x.law(1, 1), 1);
        Due.is("one more", Due.read(x, "f2;"), 1);
        Due.is("fields", x.count(0), 4);
        Due.is("worth of a later field", x.worth(2, 3), 20);
        Due.is("law back", Due.read(x, "x10;x01;"), 2);
        Due.is("corners back", x.law(0, 0), 0);
        Due.is("kin still", x.law(1, 0), 1);
        Due.is("another owner", Due.read(x, "o12;"), 1);
        Due.is("owner now", x.field(2, 1), 1);
    }

    private static void landRefusals() {
        NoTwoTouch x = new NoTwoTouch();
        Due.is("land -1", x.land(-1), -1);
        Due.is("land 8", x.land(8), -1);
        Due.is("land of nothing", x.land(7), -11);
        x.keep(7, 1, 0, 0);
        Due.is("land of a move", x.land(7), -12);
        x.row(7, 1, 3);
        Due.is("land of shorts", x.land(7), -12);
        x.row(7, 2, 3);
        Due.is("land of ints", x.land(7), -12);
    }

    private static void faultsOfSigns() {
        Due.faults("f1;f1;p5;",
            "", -1000, "z", -1000, ";", -1000, "f", -1001, "f1", -1002, "fx;", -1001, "f12;", -1002,
            "f1;;", -1003, "f1; ", -1003, "F1;", -1000,
            "h", -1001, "h0", -1002, "h0;", -1002, "h01", -1003, "h01k;", -1003, "h01l", -1004, "h01ll;", -1004,
            "c01l;", -1003, "c0", -1002, "c01", -1003,
            "p", -1001, "p;", -1001, "p00;", -1002, "p01;", -1002, "p10", -1003, "p1000;", -1004, "p100", -1004,
            "p5k;", -1003, "p5k", -1003, "p5k0", -1004, "p5k00;", -1004, "pk0;", -1001, "p-1;", -1001,
            "w0", -1002, "w00", -1003, "w005;", -1003, "w00 ", -1004, "w00 ;", -1004, "w00 05;", -1005,
            "w00 100;", -1006, "w00 5", -1005, "w00  5;", -1004, "o0;", -1002, "o0", -1002, "o00 ;", -1003,
            "x1;", -1002, "x", -1001, "x11", -1003, "f0;f0;z", -1006, "h00;f", -1005);
        NoTwoTouch x = new NoTwoTouch();
        Due.bytes(x, 0, 'f', '1', 59 + 256);
        Due.is("lowest bits", x.land(0), 1);
        Due.bytes(x, 0, 'f', '1', ';', -1);
        Due.is("a byte below 0", x.land(0), -1003);
    }

    private static void faultsOfStatements() {
        Due.faults("f1;f1;f1;h01;c12;p5;",
            "f0;", -2000, "h00;", -2000, "h33;", -2000, "h23;", -2000, "h92;", -2000, "h01;", -2000, "h10l;", -2000,
            "h12;", -2000, "c12;", -2000, "c01;", -2000, "c11;", -2000, "c03;", -2000, "c90;", -2000,
            "p5k1;", -2000, "p5k9;", -2000, "p5;p5k2;", -2003, "p5;p5;p5;", -2006,
            "w10 5;", -2000, "w03 5;", -2000, "w90 5;", -2000, "o10;", -2000, "o03;", -2000, "o90;", -2000,
            "x20;", -2000, "x02;", -2000, "x90;", -2000, "f1;f1;f1;f1;", -2009,
            "h02;c02;", -2004, "c02;x12;f0;", -2004, "f1;h33;", -2003);
        Due.faults("f1;f1;f1;f1;f1;f1;p0;p0;p0;", "f1;", -2000, "p0;", -2000, "p0k0;", -2000, "o06;", -2000);
        NoTwoTouch x = Due.with("f1;");
        Due.is("on what those ahead made", Due.read(x, "f2;h01;p7;p8k0;w11 3;o11;"), 6);
        Due.is("owner", x.field(1, 1), 1);
        Due.is("worth", x.person(1, 3), 3);
    }

    private static void faultsChangeNothing() {
        NoTwoTouch x = Due.with("f1;f2;p5;");
        Due.is("land", Due.read(x, "f3;h01;p6;w00 7;o00;x11;f0;"), -2024);
        Due.is("fields", x.count(0), 2);
        Due.is("people", x.count(1), 1);
        Due.is("touch", x.touch(0, 1), 0);
        Due.is("worth", x.worth(0, 0), 10);
        Due.is("owner", x.field(0, 1), -4);
        Due.is("corners", x.law(0, 0), 0);
        Due.is("kin", x.law(1, 0), 0);
        Due.is("the row stays", x.element(0, 24), 'f');
    }

    private static void fieldsTold() {
        NoTwoTouch x = Due.with("f4;f5;f6;f7;h01;h02l;c03;p1;p1;o11;");
        Due.is("acres", x.field(2, 0), 6);
        Due.is("nobody", x.field(0, 1), -4);
        Due.is("owner", x.field(1, 1), 1);
        Due.is("bars", x.field(0, 2), 2);
        Due.is("none bars", x.field(2, 2), 0);
        Due.is("no corner yet", x.field(3, 2), 0);
        x.law(0, 1);
        Due.is("bars with corners", x.field(0, 2), 10);
        Due.is("bars from the other side", x.field(3, 2), 1);
        Due.is("field -1", x.field(-1, 0), -1);
        Due.is("field 4", x.field(4, 0), -1);
        Due.is("what -1", x.field(0, -1), -1);
        Due.is("what 3", x.field(0, 3), -1);
    }

    private static void touchesTold() {
        NoTwoTouch x = Due.with("f4;f5;f6;f7;h01;h02l;c03;");
        Due.is("not", x.touch(1, 2), 0);
        Due.is("hedge", x.touch(0, 1), 1);
        Due.is("lane", x.touch(2, 0), 2);
        Due.is("corner", x.touch(3, 0), 3);
        Due.is("one twice", x.touch(2, 2), -1);
        Due.is("no such", x.touch(0, 4), -1);
        Due.is("no such", x.touch(4, 0), -1);
        Due.is("below", x.touch(-1, 0), -1);
        Due.is("below", x.touch(0, -1), -1);
    }

    private static void peopleTold() {
        NoTwoTouch x = Due.with("f4;f5;f6;p12;p34k0;w02 7;o00;o02;o11;");
        Due.is("coins", x.person(1, 0), 34);
        Due.is("kin", x.person(1, 1), 0);
        Due.is("kin of nobody", x.person(0, 1), -4);
        Due.is("fields", x.person(0, 2), 5);
        Due.is("worth", x.person(0, 3), 47);
        Due.is("worth 1", x.person(1, 3), 50);
        Due.is("person 2", x.person(2, 0), -1);
        Due.is("person -1", x.person(-1, 0), -1);
        Due.is("person 9", x.person(9, 2), -1);
        Due.is("what 4", x.person(0, 4), -1);
        Due.is("what -1", x.person(0, -1), -1);
    }

    private static void worthsTold() {
        NoTwoTouch x = Due.with("f4;p1;f9;p2;w10 99;");
        Due.is("10 times acres", x.worth(0, 0), 40);
        Due.is("of a field behind", x.worth(0, 1), 90);
        Due.is("told", x.worth(1, 0), 99);
        Due.is("of one behind", x.worth(1, 1), 90);
        Due.is("no person", x.worth(2, 0), -1);
        Due.is("nobody", x.worth(9, 0), -1);
        Due.is("no field", x.worth(0, 2), -1);
        Due.is("below", x.worth(-1, 0), -1);
        Due.is("below", x.worth(0, -1), -1);
    }

    private static void laws() {
        NoTwoTouch x = new NoTwoTouch();
        Due.is("was not", x.law(0, 1), 0);
        Due.is("was", x.law(0, 1), 1);
        Due.is("was till now", x.law(0, 0), 1);
        Due.is("kin apart", x.law(1, 1), 0);
        Due.is("corners apart", x.law(0, 0), 0);
        Due.is("kin", x.law(1, 0), 1);
        Due.is("what 2", x.law(2, 0), -1);
        Due.is("what -1", x.law(-1, 0), -1);
        Due.is("is 2", x.law(0, 2), -1);
        Due.is("is -1", x.law(0, -1), -1);
        Due.is("unchanged", x.law(0, 0), 0);
    }

    private static void ownings() {
        NoTwoTouch x = Due.with("f4;f5;h01;p1;p2;");
        Due.is("nobody did", x.owns(1, 0), 9);
        Due.is("one did", x.owns(0, 0), 1);
        Due.is("unlawful, too", x.owns(0, 1), 9);
        Due.is("so it is", x.person(0, 2), 3);
        Due.is("to nobody", x.owns(9, 0), 0);
        Due.is("nobody's", x.field(0, 1), -4);
        Due.is("person 2", x.owns(2, 0), -1);
        Due.is("person 8", x.owns(8, 0), -1);
        Due.is("person 10", x.owns(10, 0), -1);
        Due.is("person -1", x.owns(-1, 0), -1);
        Due.is("field 2", x.owns(0, 2), -1);
        Due.is("field -1", x.owns(9, -1), -1);
    }
}
