import java.lang.reflect.InvocationTargetException;
import java.lang.reflect.Method;
import java.util.Map;
import java.util.TreeMap;

/** Each refusal at each call that has it, the first of several, and that a refused call changes nothing. */
public final class RefusalsTest {
    private static final String LAND = "f1;f2;f9;h01;h12l;p50;p9k0;o00;x01;";

    // What the shelves hold: each refusal is asked for of the shelf that has it.
    private static final int TEXT = 0;
    private static final int MOVE = 1;
    private static final int NOTHING = 2;
    private static final int SHORTS = 3;
    private static final int INTS = 4;
    private static final int BYTES = 5;
    private static final int TOLD = 6;
    private static final int BUY = 7;

    private final NoTwoTouch x = new NoTwoTouch();
    private final Map<String, Method> face = new TreeMap<>();

    private RefusalsTest() {
        for (Method m : NoTwoTouch.class.getMethods()) {
            face.put(m.getName(), m);
        }
        Due.is("land", Due.read(x, LAND), 9);
        x.keep(MOVE, 1, 0, 7);
        x.row(SHORTS, 1, 3);
        x.row(INTS, 2, 3);
        Due.bytes(x, BYTES, 1, 2, 3, 4);
        x.keep(TOLD, 1, 6, 7);
        x.keep(BUY, 1, 1, 1205);
    }

    public static void main(String[] args) {
        RefusalsTest t = new RefusalsTest();
        t.numbersOutOfRange();
        t.lands();
        t.movesRefused();
        t.rowsRead();
        t.games();
        t.images();
        t.keptOnes();
        t.rowsMade();
        t.puts();
        t.copies();
        t.feesAndTosses();
        t.elements();
        Due.end();
    }

    private void refused(int due, String name, int... arguments) {
        Object[] boxed = new Object[arguments.length];
        StringBuilder call = new StringBuilder(name);
        for (int i = 0; i < arguments.length; i++) {
            boxed[i] = arguments[i];
            call.append(' ').append(arguments[i]);
        }
        String before = State.of(x);
        try {
            Due.is(call.toString(), ((Number) face.get(name).invoke(x, boxed)).longValue(), due);
        } catch (IllegalAccessException | InvocationTargetException e) {
            Due.is(call + " throws " + e.getCause(), 1, 0);
        }
        Due.is(call + " changes nothing", State.of(x).equals(before) ? 1 : 0, 1);
    }

    /** The first place of the call is one below 0, beyond 7, or far away; the others are told. */
    private void refusedShelves(String name, int... others) {
        for (int d : new int[] {-1, 8, Integer.MIN_VALUE, Integer.MAX_VALUE}) {
            int[] arguments = new int[others.length + 1];
            arguments[0] = d;
            System.arraycopy(others, 0, arguments, 1, others.length);
            refused(-1, name, arguments);
        }
    }

    private void numbersOutOfRange() {
        for (int far : new int[] {-2, 9, 10, Integer.MIN_VALUE, Integer.MAX_VALUE}) {
            refused(-1, "field", far, 0);
            refused(-1, "field", 0, far);
            refused(-1, "touch", far, 0);
            refused(-1, "touch", 0, far);
            refused(-1, "touch", far, far);
            refused(-1, "person", far, 0);
            refused(-1, "person", 0, far);
            refused(-1, "worth", far, 0);
            refused(-1, "worth", 0, far);
            refused(-1, "law", far, 1);
            refused(-1, "law", 0, far);
            refused(-1, "owns", 1, far);
            refused(-1, "owns", 9, far);
            refused(-1, "fewest", far);
            refused(-1, "most", far, 0);
            refused(-1, "most", 0, far);
            refused(-1, "best", far);
            refused(-1, "withMusts", far);
            refused(-1, "flood", far, 0);
            refused(-1, "flood", 0, far);
            refused(-1, "flood", far, far);
            refused(-1, "lots", 5, far);
            refused(-1, "count", far);
        }
        for (int other : new int[] {-1, 2, 8, 10}) {
            refused(-1, "owns", other, 0);
            refused(-1, "law", 0, other);
            refused(-1, "law", other, 1);
            refused(-1, "lots", 0, other);
            refused(-1, "most", 0, other);
        }
        refused(-1, "touch", 1, 1);
        refused(-1, "flood", 1, 1);
        refused(-1, "fewest", 3);
        refused(-1, "best", 3);
        refused(-1, "withMusts", 3);
        refused(-1, "count", 8);
        refused(-1, "person", 0, 4);
        refused(-1, "field", 0, 3);
    }

    private void lands() {
        refusedShelves("land");
        refused(-11, "land", NOTHING);
        refused(-12, "land", MOVE);
        refused(-12, "land", SHORTS);
        refused(-12, "land", INTS);
        refused(-1000, "land", BYTES);
    }

    private void movesRefused() {
        refusedShelves("may", 0);
        refused(-1, "may", BUY, 2);
        refused(-1, "may", BUY, -1);
        // What is out of range goes ahead of what the shelf holds.
        refused(-1, "may", NOTHING, 2);
        refused(-1, "may", TEXT, -1);
        refused(-11, "may", NOTHING, 0);
        refused(-11, "may", NOTHING, 1);
        refused(-12, "may", TEXT, 0);
        refused(-12, "may", SHORTS, 1);
        refusedShelves("move");
        refused(-11, "move", NOTHING);
        refused(-12, "move", TEXT);
        refused(-3, "move", BUY);
        for (int k = 0; k < 8; k++) {
            for (int wfog : new int[] {2000, 9000, 300, 900, 2900}) {
                x.keep(BUY, 1, k, wfog);
                refusedAsNotThere();
            }
        }
        for (int k : new int[] {2, 3, 5}) {
            x.keep(BUY, 1, k, 30);
            refusedAsNotThere();
        }
        x.keep(BUY, 1, 3, 13);
        refusedAsNotThere();
        // A FIELD that isn't there goes ahead of what can't be as things stand: not three unlike ones.
        x.keep(BUY, 1, 3, 3);
        refusedAsNotThere();
        x.keep(BUY, 1, 2, 330);
        refusedAsNotThere();
        x.keep(BUY, 1, 1, 1205);
    }

    private void refusedAsNotThere() {
        refused(-13, "may", BUY, 0);
        refused(-13, "may", BUY, 1);
        refused(-1, "may", BUY, 2);
        refused(-13, "move", BUY);
    }

    private void rowsRead() {
        for (String name : new String[] {"judge", "chain"}) {
            refusedShelves(name);
            refused(-11, name, NOTHING);
            refused(-12, name, MOVE);
            refused(-12, name, SHORTS);
            refused(-12, name, INTS);
        }
        refused(-13, "chain", BYTES);
        refusedShelves("deeds", 0);
        refused(-1, "deeds", BYTES, 2);
        refused(-1, "deeds", BYTES, -1);
        refused(-1, "deeds", NOTHING, 2);
        refused(-1, "deeds", MOVE, 2);
        for (int what = 0; what < 2; what++) {
            refused(-11, "deeds", NOTHING, what);
            refused(-12, "deeds", MOVE, what);
            refused(-12, "deeds", SHORTS, what);
            refused(-12, "deeds", INTS, what);
            refused(-13, "deeds", BYTES, what);
        }
        // A ROW of another SORT goes ahead of what is in it.
        x.row(SHORTS, 1, 4);
        refused(-12, "deeds", SHORTS, 0);
        refused(-12, "chain", SHORTS);
        x.row(SHORTS, 1, 3);
    }

    private void games() {
        refused(-1, "game", 2);
        refused(-1, "game", -1);
        NoTwoTouch alone = Due.with("f1;f1;p5;");
        String before = State.of(alone);
        Due.is("one alone", alone.game(0), -3);
        Due.is("one alone", alone.game(1), -3);
        Due.is("what goes ahead", alone.game(2), -1);
        Due.is("value of one alone", alone.value(), -1000000003);
        Due.is("nothing changes", State.of(alone).equals(before) ? 1 : 0, 1);
        NoTwoTouch none = new NoTwoTouch();
        Due.is("nobody", none.game(0), -3);
        Due.is("nobody", none.game(-1), -1);
        Due.is("value of nobody", none.value(), -1000000003);
    }

    private void images() {
        NoTwoTouch y = Due.with(LAND);
        String before = State.of(y);
        Due.is("no image", y.restore(), -3);
        Due.is("nothing changes", State.of(y).equals(before) ? 1 : 0, 1);
        Due.is("still none", y.restore(), -3);
    }

    private void keptOnes() {
        refusedShelves("keep", 0, 0, 0);
        refusedShelves("keep", 1, 0, 0);
        refused(-1, "keep", MOVE, 2, 0, 0);
        refused(-1, "keep", MOVE, -1, 0, 0);
        refused(-1, "keep", MOVE, 1, 8, 0);
        refused(-1, "keep", MOVE, 1, -1, 0);
        refused(-1, "keep", MOVE, 1, 0, 10000);
        refused(-1, "keep", MOVE, 1, 0, -1);
        refused(-1, "keep", BYTES, 1, 0, Integer.MIN_VALUE);
        refused(-1, "keep", NOTHING, 1, Integer.MAX_VALUE, 0);
    }

    private void rowsMade() {
        refusedShelves("row", 0, 5);
        refused(-1, "row", BYTES, 3, 5);
        refused(-1, "row", BYTES, -1, 5);
        refused(-1, "row", BYTES, 0, 101);
        refused(-1, "row", MOVE, 2, Integer.MAX_VALUE);
        refused(-14, "row", BYTES, 0, -1);
        refused(-14, "row", MOVE, 2, Integer.MIN_VALUE);
        refusedShelves("row", 0, -1);
        refused(-1, "row", BYTES, 3, -1);
        refused(-1, "row", BYTES, -1, -1);
    }

    private void puts() {
        refusedShelves("put", 0, 7);
        refusedShelves("put", -1, 7);
        refused(-11, "put", NOTHING, 0, 7);
        refused(-11, "put", NOTHING, -1, 7);
        refused(-12, "put", MOVE, 0, 7);
        refused(-12, "put", MOVE, -1, 7);
        refused(-13, "put", BYTES, -1, 7);
        refused(-13, "put", BYTES, 4, 7);
        refused(-13, "put", SHORTS, 3, 7);
        refused(-13, "put", INTS, Integer.MIN_VALUE, 7);
        refused(-13, "put", INTS, Integer.MAX_VALUE, 7);
    }

    private void copies() {
        refusedShelves("copy", 0, BYTES, 0, 1);
        refused(-1, "copy", BYTES, 0, 8, 0, 1);
        refused(-1, "copy", BYTES, 0, -1, 0, 1);
        // No such SHELF goes ahead of nothing held, that of another kind, and that of a wrong place.
        refused(-1, "copy", NOTHING, 0, 8, 0, 1);
        refused(-1, "copy", 8, 0, NOTHING, 0, 1);
        refused(-1, "copy", MOVE, 0, 8, 9, -1);
        refused(-11, "copy", NOTHING, 0, BYTES, 0, 1);
        refused(-11, "copy", BYTES, 0, NOTHING, 0, 1);
        refused(-11, "copy", NOTHING, 0, NOTHING, 0, 1);
        refused(-11, "copy", NOTHING, 0, MOVE, 0, 1);
        refused(-11, "copy", MOVE, 0, NOTHING, -1, -1);
        refused(-12, "copy", MOVE, 0, BYTES, 0, 1);
        refused(-12, "copy", BYTES, 0, MOVE, 0, 1);
        refused(-12, "copy", MOVE, 0, TOLD, 0, 1);
        refused(-12, "copy", BYTES, 0, SHORTS, 0, 1);
        refused(-12, "copy", SHORTS, 0, INTS, 0, 1);
        refused(-12, "copy", INTS, 9, BYTES, -1, -1);
        refused(-13, "copy", BYTES, -1, TEXT, 0, 1);
        refused(-13, "copy", BYTES, 4, TEXT, 0, 1);
        refused(-13, "copy", BYTES, 3, TEXT, 0, 2);
        refused(-13, "copy", TEXT, 0, BYTES, -1, 1);
        refused(-13, "copy", TEXT, 0, BYTES, 4, 1);
        refused(-13, "copy", TEXT, 0, BYTES, 3, 2);
        refused(-13, "copy", TEXT, 0, BYTES, 0, 5);
        refused(-13, "copy", BYTES, 0, TEXT, 0, 5);
        refused(-13, "copy", BYTES, 0, TEXT, 0, -1);
        refused(-13, "copy", BYTES, 0, BYTES, 1, 4);
        refused(-13, "copy", BYTES, Integer.MAX_VALUE, TEXT, 0, Integer.MAX_VALUE);
        refused(-13, "copy", BYTES, 0, TEXT, Integer.MIN_VALUE, Integer.MIN_VALUE);
    }

    private void feesAndTosses() {
        for (String name : new String[] {"fee", "toss"}) {
            refusedShelves(name);
            refused(-11, name, NOTHING);
            refused(-12, name, TEXT);
            refused(-12, name, SHORTS);
            refused(-12, name, INTS);
        }
        refused(-15, "toss", TOLD);
        for (int k = 0; k < 8; k++) {
            x.keep(TOLD, 1, k, 1110);
            refused(-15, "toss", TOLD);
        }
        x.keep(TOLD, 1, 6, 7);
    }

    private void elements() {
        String before = State.of(x);
        int[] shelves = {-1, 8, Integer.MIN_VALUE, Integer.MAX_VALUE};
        for (int d : shelves) {
            Due.is("no such shelf " + d, Due.thrownByElement(x, d, 0), 1);
            Due.is("no such shelf, no such place " + d, Due.thrownByElement(x, d, -1), 1);
        }
        Due.is("nothing", Due.thrownByElement(x, NOTHING, 0), 2);
        Due.is("a move", Due.thrownByElement(x, MOVE, 0), 2);
        for (int i : new int[] {-1, 4, 100, Integer.MIN_VALUE, Integer.MAX_VALUE}) {
            Due.is("no such place " + i, Due.thrownByElement(x, BYTES, i), 2);
        }
        Due.is("the last", Due.thrownByElement(x, BYTES, 3), 0);
        Due.is("nothing changes", State.of(x).equals(before) ? 1 : 0, 1);
    }
}
