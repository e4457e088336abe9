/** Promises 28 to 34: keep, row, put, element, copy, fee, toss. */
public final class ShelvesTest {
    public static void main(String[] args) {
        kept();
        rows();
        puts();
        elements();
        copies();
        copyRefusals();
        fees();
        tosses();
        Due.end();
    }

    private static void kept() {
        NoTwoTouch x = new NoTwoTouch();
        for (int d = 0; d < 8; d++) {
            Due.is("keep in " + d, x.keep(d, 1, d, 9999), 0);
        }
        Due.is("each its own", x.fee(4), 22);
        Due.is("nothing", x.keep(4, 0, -7, -7), 0);
        Due.is("nothing there", x.fee(4), -11);
        Due.is("shelf -1", x.keep(-1, 0, 0, 0), -1);
        Due.is("shelf 8", x.keep(8, 1, 0, 0), -1);
        Due.is("what 2", x.keep(3, 2, 0, 0), -1);
        Due.is("what -1", x.keep(3, -1, 0, 0), -1);
        Due.is("kind 8", x.keep(3, 1, 8, 0), -1);
        Due.is("kind -1", x.keep(3, 1, -1, 0), -1);
        Due.is("wfog 10000", x.keep(3, 1, 0, 10000), -1);
        Due.is("wfog -1", x.keep(3, 1, 0, -1), -1);
        Due.is("as ahead", x.fee(3), 7);
        Due.is("a row in its place", x.row(3, 0, 1), 0);
        Due.is("no move", x.fee(3), -12);
        Due.is("a move again", x.keep(3, 1, 0, 0), 0);
        Due.is("no row", x.put(3, 0, 0), -12);
    }

    private static void rows() {
        NoTwoTouch x = new NoTwoTouch();
        for (int sort = 0; sort < 3; sort++) {
            Due.is("row", x.row(5, sort, 100), 0);
            Due.is("first", x.element(5, 0), 0);
            Due.is("last", x.element(5, 99), 0);
            Due.is("put", x.put(5, 99, 7), 0);
            Due.is("row anew", x.row(5, sort, 100), 0);
            Due.is("0 at first", x.element(5, 99), 0);
        }
        Due.is("none", x.row(5, 0, 0), 0);
        Due.is("no place", x.put(5, 0, 0), -13);
        Due.is("shelf -1", x.row(-1, 0, 1), -1);
        Due.is("shelf 8", x.row(8, 0, 1), -1);
        Due.is("sort 3", x.row(5, 3, 1), -1);
        Due.is("sort -1", x.row(5, -1, 1), -1);
        Due.is("101", x.row(5, 0, 101), -1);
        Due.is("below 0", x.row(5, 0, -1), -14);
        Due.is("least", x.row(5, 0, Integer.MIN_VALUE), -14);
        Due.is("shelf ahead of size", x.row(8, 0, -1), -1);
        Due.is("sort ahead of size", x.row(5, 3, -1), -1);
        Due.is("as ahead", x.put(5, 0, 0), -13);
    }

    private static void putIs(int sort, int v, long want) {
        NoTwoTouch x = new NoTwoTouch();
        x.row(0, sort, 2);
        Due.is("put", x.put(0, 1, v), 0);
        Due.is("lowest bits of " + v, x.element(0, 1), want);
        Due.is("the other", x.element(0, 0), 0);
    }

    private static void puts() {
        putIs(0, 127, 127);
        putIs(0, 128, -128);
        putIs(0, -129, 127);
        putIs(0, 511, -1);
        putIs(1, 32767, 32767);
        putIs(1, 32768, -32768);
        putIs(1, 65541, 5);
        putIs(2, Integer.MAX_VALUE, Integer.MAX_VALUE);
        putIs(2, Integer.MIN_VALUE, Integer.MIN_VALUE);
        NoTwoTouch x = new NoTwoTouch();
        x.row(0, 0, 2);
        x.keep(1, 1, 0, 0);
        Due.is("place 2", x.put(0, 2, 1), -13);
        Due.is("place -1", x.put(0, -1, 1), -13);
        Due.is("shelf -1", x.put(-1, 0, 1), -1);
        Due.is("shelf 8", x.put(8, 0, 1), -1);
        Due.is("nothing", x.put(2, 0, 1), -11);
        Due.is("a move", x.put(1, 0, 1), -12);
    }

    private static void elements() {
        NoTwoTouch x = new NoTwoTouch();
        x.row(0, 0, 2);
        x.keep(1, 1, 0, 0);
        Due.is("there", Due.thrownByElement(x, 0, 1), 0);
        Due.is("place 2", Due.thrownByElement(x, 0, 2), 2);
        Due.is("place -1", Due.thrownByElement(x, 0, -1), 2);
        Due.is("a move", Due.thrownByElement(x, 1, 0), 2);
        Due.is("nothing", Due.thrownByElement(x, 2, 0), 2);
        Due.is("shelf -1", Due.thrownByElement(x, -1, 0), 1);
        Due.is("shelf 8", Due.thrownByElement(x, 8, -1), 1);
    }

    private static NoTwoTouch twoRows() {
        NoTwoTouch x = new NoTwoTouch();
        Due.bytes(x, 0, 1, 2, 3, 4, 5);
        Due.bytes(x, 1, 6, 7, 8);
        return x;
    }

    private static void rowIs(NoTwoTouch x, int d, int... want) {
        for (int i = 0; i < want.length; i++) {
            Due.is("element " + i + " of " + d, x.element(d, i), want[i]);
        }
    }

    private static void copies() {
        NoTwoTouch x = twoRows();
        Due.is("copy", x.copy(0, 3, 1, 1, 2), 2);
        rowIs(x, 1, 6, 4, 5);
        rowIs(x, 0, 1, 2, 3, 4, 5);
        Due.is("up in one row", x.copy(0, 0, 0, 1, 4), 4);
        rowIs(x, 0, 1, 1, 2, 3, 4);
        Due.is("down in one row", x.copy(0, 1, 0, 0, 4), 4);
        rowIs(x, 0, 1, 2, 3, 4, 4);
        Due.is("none", x.copy(0, 2, 1, 2, 0), 0);
        Due.is("all", x.copy(1, 0, 0, 2, 3), 3);
        rowIs(x, 0, 1, 2, 6, 4, 5);
        x.row(4, 2, 0);
        x.row(5, 2, 0);
        Due.is("none of none", x.copy(4, 0, 5, 0, 0), 0);
        Due.is("one of none", x.copy(4, 0, 5, 0, 1), -13);
        x.row(4, 2, 1);
        x.row(5, 2, 1);
        x.put(4, 0, 70000);
        Due.is("ints", x.copy(4, 0, 5, 0, 1), 1);
        rowIs(x, 5, 70000);
    }

    private static void copyRefusals() {
        NoTwoTouch x = twoRows();
        x.keep(2, 1, 0, 0);
        x.row(4, 1, 3);
        int[][] calls = {
            {-1, 0, 1, 0, 1, -1}, {0, 0, 8, 0, 1, -1}, {8, 0, 3, 0, 1, -1},
            {3, 0, 0, 0, 1, -11}, {0, 0, 3, 0, 1, -11}, {2, 0, 3, 0, 1, -11}, {3, 0, 2, 0, 1, -11},
            {2, 0, 0, 0, 1, -12}, {0, 0, 2, 0, 1, -12}, {4, 0, 0, 0, 1, -12}, {0, 9, 4, 0, 1, -12},
            {0, -1, 1, 0, 1, -13}, {0, 0, 1, -1, 1, -13}, {0, 0, 1, 0, -1, -13}, {0, 5, 1, 0, 1, -13},
            {0, 0, 1, 3, 1, -13}, {0, 0, 1, 0, 4, -13}, {0, 3, 1, 0, 3, -13}, {0, 6, 1, 0, 0, -13},
            {0, 1, 1, 0, Integer.MAX_VALUE, -13}, {0, Integer.MAX_VALUE, 1, 0, 1, -13},
        };
        for (int[] c : calls) {
            Due.is("copy", x.copy(c[0], c[1], c[2], c[3], c[4]), c[5]);
        }
        rowIs(x, 0, 1, 2, 3, 4, 5);
        rowIs(x, 1, 6, 7, 8);
    }

    private static void fees() {
        NoTwoTouch x = new NoTwoTouch();
        int[][] due = {{2, 2, 2}, {2, 5, 11}, {6, 6, 6}, {7, 7, 7}, {4, 10, 22}, {9, 9, 9}, {0, 0, 0}, {2, 2, 2}};
        int[] figures = {0, 3, 9};
        for (int k = 0; k < 8; k++) {
            for (int i = 0; i < 3; i++) {
                Due.keep(x, k, 4560 + figures[i]);
                Due.is("fee of " + k + " with " + figures[i], x.fee(1), due[k][i]);
            }
        }
        x.row(2, 0, 1);
        Due.is("a row", x.fee(2), -12);
        Due.is("nothing", x.fee(3), -11);
        Due.is("shelf -1", x.fee(-1), -1);
        Due.is("shelf 8", x.fee(8), -1);
    }

    private static void tosses() {
        NoTwoTouch x = new NoTwoTouch();
        int[] due = {4, 4, 4, 104, 4, 4, -15, 202};
        for (int k = 0; k < 8; k++) {
            Due.keep(x, k, 3214);
            Due.is("toss of " + k, x.toss(1), due[k]);
            Due.keep(x, k, 3210);
            Due.is("toss of " + k + " without figure", x.toss(1), -15);
            Due.is("it stays", x.fee(1) >= 0 ? 1 : 0, 1);
        }
        x.row(2, 0, 1);
        Due.is("a row", x.toss(2), -12);
        Due.is("nothing", x.toss(3), -11);
        Due.is("shelf -1", x.toss(-1), -1);
        Due.is("shelf 8", x.toss(8), -1);
    }
}
