/** What the tests share: answers that are due, and short ways to make lands and rows. */
final class Due {
    private static int wrong = 0;
    private static int asked = 0;

    private Due() {
    }

    static void is(String call, long got, long want) {
        asked++;
        if (got != want) {
            wrong++;
            System.out.println(call + " answered " + got + ", due is " + want);
        }
    }

    static void end() {
        System.out.println(asked + " answers looked at, " + wrong + " not as due");
        if (wrong != 0) {
            System.exit(1);
        }
    }

    /** Puts a row of bytes into a shelf. */
    static void bytes(NoTwoTouch x, int d, int... elements) {
        is("row of " + elements.length, x.row(d, 0, elements.length), 0);
        for (int i = 0; i < elements.length; i++) {
            is("put " + i, x.put(d, i, elements[i]), 0);
        }
    }

    /** Reads a text as a land, from shelf 0. */
    static int read(NoTwoTouch x, String text) {
        int[] elements = new int[text.length()];
        for (int i = 0; i < elements.length; i++) {
            elements[i] = text.charAt(i);
        }
        bytes(x, 0, elements);
        return x.land(0);
    }

    /** A new object with a land that must be without fault. */
    static NoTwoTouch with(String text) {
        NoTwoTouch x = new NoTwoTouch();
        if (!text.isEmpty()) {
            int statements = (int) text.chars().filter(c -> c == ';').count();
            is("land of " + text, read(x, text), statements);
        }
        return x;
    }

    /** Puts a move into shelf 1. */
    static void keep(NoTwoTouch x, int k, int wfog) {
        is("keep " + k + " " + wfog, x.keep(1, 1, k, wfog), 0);
    }

    /** 0 where element answers, 1 or 2 for the exceptions that it may throw, 3 for any other. */
    static int thrownByElement(NoTwoTouch x, int d, int i) {
        try {
            x.element(d, i);
            return 0;
        } catch (IllegalArgumentException e) {
            return 1;
        } catch (IllegalStateException e) {
            return 2;
        } catch (RuntimeException e) {
            return 3;
        }
    }

    /** Asks one after another of the texts for its fault, each on an object with the same land. */
    static void faults(String land, Object... textsAndFaults) {
        for (int i = 0; i + 1 < textsAndFaults.length; i += 2) {
            NoTwoTouch x = with(land);
            String text = (String) textsAndFaults[i];
            int fields = x.count(0);
            int people = x.count(1);
            is("land of " + text, read(x, text), (Integer) textsAndFaults[i + 1]);
            is("fields behind " + text, x.count(0), fields);
            is("people behind " + text, x.count(1), people);
        }
    }
}
