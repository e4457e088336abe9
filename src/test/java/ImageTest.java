/** Promises 25 to 27: image, restore, count. */
public final class ImageTest {
    public static void main(String[] args) {
        noImage();
        emptyImage();
        allIsRestored();
        nothingLater();
        shelvesStay();
        counts();
        Due.end();
    }

    private static void noImage() {
        NoTwoTouch x = Due.with("f1;p5;");
        Due.is("none", x.restore(), -3);
        Due.is("unchanged", x.count(0), 1);
    }

    private static void emptyImage() {
        NoTwoTouch x = new NoTwoTouch();
        Due.is("image of nothing", x.image(), 0);
        Due.read(x, "f1;p5;x11;");
        Due.is("restored", x.restore(), 0);
        Due.is("no fields", x.count(0), 0);
        Due.is("nobody", x.count(1), 0);
        Due.is("law", x.law(0, 0), 0);
        Due.is("a first field", Due.read(x, "f3;"), 1);
        Due.is("acres", x.count(2), 3);
    }

    private static void allIsRestored() {
        NoTwoTouch x = Due.with("f1;f2;h01;f3;c12;p50;p60k0;w00 7;o00;o11;");
        Due.is("image", x.image(), 3);
        Due.is("more", Due.read(x, "f4;h02l;p1;w00 8;w11 9;o02;x11;"), 7);
        Due.keep(x, 5, 11);
        x.law(1, 0);
        Due.is("lane", x.move(1), 0);
        x.owns(9, 0);
        for (int round = 0; round < 2; round++) {
            Due.is("restored", x.restore(), 3);
            Due.is("people", x.count(1), 2);
            Due.is("worth", x.worth(0, 0), 7);
            Due.is("worth", x.worth(1, 1), 20);
            Due.is("owner 0", x.field(0, 1), 0);
            Due.is("owner 1", x.field(1, 1), 1);
            Due.is("owner 2", x.field(2, 1), -4);
            Due.is("coins", x.count(7), 110);
            Due.is("kin", x.person(1, 1), 0);
            Due.is("hedge", x.touch(0, 1), 1);
            Due.is("apart", x.touch(0, 2), 0);
            Due.is("corner", x.touch(1, 2), 3);
            Due.is("corners", x.law(0, 1), 0);
            Due.is("kin", x.law(1, 1), 0);
            Due.is("a field more", Due.read(x, "f9;"), 1);
        }
        Due.is("the image is taken anew", x.image(), 4);
        x.owns(9, 1);
        Due.is("restored", x.restore(), 4);
        Due.is("owner 1", x.field(1, 1), 1);
        Due.is("law", x.law(0, 0), 1);
    }

    private static void nothingLater() {
        NoTwoTouch x = Due.with("f1;p50;");
        x.image();
        Due.is("more", Due.read(x, "f9;h01;p60k0;w01 7;w10 8;o11;"), 6);
        x.restore();
        Due.is("others", Due.read(x, "f2;p70;"), 2);
        Due.is("apart", x.touch(0, 1), 0);
        Due.is("nobody's", x.field(1, 1), -4);
        Due.is("acres", x.field(1, 0), 2);
        Due.is("no kin", x.person(1, 1), -4);
        Due.is("worth 0 1", x.worth(0, 1), 20);
        Due.is("worth 1 0", x.worth(1, 0), 10);
        Due.is("worth 1 1", x.worth(1, 1), 20);
    }

    private static void shelvesStay() {
        NoTwoTouch x = new NoTwoTouch();
        Due.bytes(x, 3, 4, 5);
        x.image();
        x.put(3, 0, 9);
        Due.keep(x, 1, 7);
        x.restore();
        Due.is("put behind it", x.element(3, 0), 9);
        Due.is("put ahead of it", x.element(3, 1), 5);
        Due.is("kept behind it", x.fee(1), 9);
    }

    private static void counts() {
        NoTwoTouch x = Due.with("f1;f2;f3;f9;h01;h02l;h03l;c12;c13;c23;p5;p70;o00;o13;");
        int[] due = {4, 2, 15, 2, 3, 2, 3, 75};
        for (int what = 0; what < due.length; what++) {
            Due.is("count " + what, x.count(what), due[what]);
        }
        Due.is("count 8", x.count(8), -1);
        Due.is("count -1", x.count(-1), -1);
    }
}
