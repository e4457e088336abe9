import java.lang.reflect.InvocationTargetException;
import java.lang.reflect.Method;
import java.lang.reflect.Modifier;
import java.util.Arrays;
import java.util.HashMap;
import java.util.Map;
import java.util.Random;

/** Promises 1 to 34 in runs of 512 calls, each call asked of the program and of the model of the document. */
public final class RunsTest {
    private static final int RUNS = 300;
    private static final int CALLS = 512;
    private static final int[] FAR = {-2, -1, 7, 8, 9, 10, 100, 101, Integer.MIN_VALUE, Integer.MAX_VALUE};
    private static final String OTHERS = "fhcpwox;0123456789 lk?";
    /** Each call, and how many numbers it is asked with. */
    private static final String[] ASKING = {
        "field 2", "touch 2", "person 2", "worth 2", "lawful 0", "firstUnlawful 0", "may 2", "judge 1", "fewest 1",
        "most 2", "best 1", "withMusts 1", "chain 1", "flood 2", "frees 0", "game 1", "value 0", "deeds 2", "lots 2",
        "count 1", "element 2", "fee 1", "toss 1",
    };
    private static final String[] CHANGING = {
        "land 1", "law 2", "owns 2", "move 1", "image 0", "restore 0", "keep 4", "row 3", "put 3", "copy 5",
    };

    private final Random random;
    private final int run;
    private final NoTwoTouch x = new NoTwoTouch();
    private final Model model = new Model();
    private final Map<String, Method> face = new HashMap<>();
    private final Map<String, Method> due = new HashMap<>();
    private int calls = 0;

    private RunsTest(int run) {
        this.run = run;
        random = new Random(run);
        for (Method m : NoTwoTouch.class.getDeclaredMethods()) {
            face.put(m.getName(), m);
        }
        for (Method m : Model.class.getDeclaredMethods()) {
            if (Modifier.isPublic(m.getModifiers())) {
                due.put(m.getName(), m);
            }
        }
    }

    public static void main(String[] args) {
        int runs = args.length > 0 ? Integer.parseInt(args[0]) : RUNS;
        for (int run = 0; run < runs; run++) {
            new RunsTest(run).run();
        }
        Due.end();
    }

    private void run() {
        text(0, firstText());
        while (calls < CALLS) {
            switch (random.nextInt(15)) {
                case 0: text(random.nextInt(8), statements(1 + random.nextInt(3))); break;
                case 1: ownings(); break;
                case 2: judged(); break;
                case 3: deeds(); break;
                case 4:
                case 5: moves(); break;
                case 6: any(CHANGING); break;
                case 7: both("owns", random.nextInt(4) == 0 ? 9 : person(), field()); break;
                case 8: both("law", random.nextInt(2), random.nextInt(2)); break;
                case 9: both(random.nextInt(3) > 0 || model.count(0) < 2 ? "image" : "restore"); break;
                case 10:
                case 11: searches(); break;
                case 12: games(); break;
                default: any(ASKING); break;
            }
        }
    }

    // ---- the two, asked the same

    private static long answer(Method m, Object of, Object[] arguments) {
        try {
            return ((Number) m.invoke(of, arguments)).longValue();
        } catch (InvocationTargetException e) {
            Class<?> thrown = e.getCause().getClass();
            return thrown == IllegalArgumentException.class ? Long.MIN_VALUE
                : thrown == IllegalStateException.class ? Long.MIN_VALUE + 1 : Long.MAX_VALUE;
        } catch (IllegalAccessException e) {
            return Long.MAX_VALUE - 1;
        }
    }

    private long both(String name, int... arguments) {
        if (calls >= CALLS) {
            return -1;
        }
        calls++;
        Object[] boxed = new Object[arguments.length];
        for (int i = 0; i < boxed.length; i++) {
            boxed[i] = arguments[i];
        }
        long answer = answer(face.get(name), x, boxed);
        String call = "run " + run + ", call " + calls + ": " + name + Arrays.toString(arguments);
        Due.is(call, answer, answer(due.get(name), model, boxed));
        return answer;
    }

    // ---- what is asked

    private int field() {
        int fields = model.count(0);
        return fields == 0 || random.nextInt(12) == 0 ? random.nextInt(10) : random.nextInt(fields);
    }

    private int person() {
        int people = model.count(1);
        return people == 0 || random.nextInt(12) == 0 ? random.nextInt(10) : random.nextInt(people);
    }

    private void any(String[] calls) {
        String[] call = calls[random.nextInt(calls.length)].split(" ");
        int[] arguments = new int[Integer.parseInt(call[1])];
        for (int i = 0; i < arguments.length; i++) {
            boolean far = random.nextInt(10) == 0;
            arguments[i] = far ? FAR[random.nextInt(FAR.length)] : random.nextInt(random.nextBoolean() ? 8 : 3) - (i == 0 ? 1 : 0);
        }
        if (call[0].equals("keep") && random.nextInt(3) > 0) {
            arguments[3] = random.nextInt(10000);
        }
        if (call[0].equals("lots") && random.nextBoolean()) {
            arguments[0] = random.nextInt();
        }
        both(call[0], arguments);
    }

    private void bytes(int d, int... elements) {
        both("row", d, 0, elements.length);
        for (int i = 0; i < elements.length; i++) {
            if (elements[i] != 0) {
                both("put", d, i, elements[i]);
            }
        }
    }

    private void ownings() {
        int[] row = new int[Math.max(0, model.count(0) + (random.nextInt(12) == 0 ? random.nextInt(3) - 1 : 0))];
        boolean near = random.nextBoolean();
        for (int f = 0; f < row.length; f++) {
            int owner = model.field(f, 1);
            boolean stays = near && random.nextInt(3) > 0;
            row[f] = stays ? owner < 0 ? 9 : owner : random.nextInt(3) == 0 ? 9 : person();
        }
        int d = random.nextInt(8);
        bytes(d, row);
        both("chain", d);
        both("judge", d);
    }

    private void judged() {
        int[] row = new int[random.nextInt(9)];
        for (int i = 0; i < row.length; i++) {
            row[i] = i % 2 == 1 ? field() : random.nextInt(3) == 0 ? 9 : person();
        }
        int d = random.nextInt(8);
        bytes(d, row);
        both("judge", d);
        both("deeds", d, random.nextInt(2));
    }

    private void deeds() {
        int[] row = new int[random.nextInt(10) * 3 + (random.nextInt(10) == 0 ? 1 : 0)];
        int years = 1 + random.nextInt(3);
        boolean wrong = random.nextInt(4) == 0;
        for (int i = 0; i < row.length; i++) {
            int one = i % 3 == 0 ? person() : i % 3 == 1 ? field() : random.nextInt(years);
            row[i] = wrong || i % 3 == 2 ? one : Math.min(one, model.count(i % 3 == 0 ? 1 : 0) - 1);
        }
        int d = random.nextInt(8);
        bytes(d, row);
        both("deeds", d, 0);
        both("deeds", d, 1);
    }

    private void moves() {
        int d = random.nextInt(8);
        for (int i = random.nextInt(4); i >= 0; i--) {
            int k = random.nextInt(8);
            int figure = k == 3 ? field() : random.nextInt(10);
            both("keep", d, 1, k, 1000 * person() + 100 * field() + 10 * field() + figure);
            both("may", d, 0);
            both("may", d, 1);
            both("fee", d);
            both("toss", d);
            both("move", d);
        }
    }

    private void searches() {
        both("fewest", random.nextInt(7) - 1);
        both("most", person(), random.nextInt(2));
        both("best", random.nextInt(7) - 1);
        both("withMusts", random.nextInt(7) - 1);
        both("flood", field(), field());
        both("frees");
        both("firstUnlawful");
    }

    private void games() {
        int[] owners = new int[model.count(0)];
        // Most FIELDS are owned in the middle of a run, and a game is of those that nobody owns.
        for (int f = 0; f < owners.length; f++) {
            owners[f] = random.nextInt(4) == 0 ? -4 : model.field(f, 1);
            both("owns", 9, f);
        }
        both("game", random.nextInt(2));
        both("value");
        both("lots", random.nextInt(), random.nextInt(2));
        for (int f = 0; f < owners.length; f++) {
            both("owns", owners[f] < 0 ? 9 : owners[f], f);
            both("game", random.nextInt(2));
            both("value");
        }
        both("lots", random.nextInt(), random.nextInt(2));
    }

    // ---- texts

    private void text(int d, String text) {
        int[] elements = new int[Math.min(100, text.length())];
        for (int i = 0; i < elements.length; i++) {
            elements[i] = text.charAt(i);
        }
        bytes(d, elements);
        both("land", d);
    }

    private String firstText() {
        StringBuilder text = new StringBuilder();
        int fields = random.nextInt(6) == 0 ? random.nextInt(3) : 3 + random.nextInt(4);
        for (int f = 0; f < fields; f++) {
            text.append('f').append(1 + random.nextInt(9)).append(';');
        }
        for (int p = random.nextInt(6) == 0 ? random.nextInt(2) : 2 + random.nextInt(2); p > 0; p--) {
            text.append('p').append(random.nextInt(3) == 0 ? random.nextInt(1000) : 950).append(';');
        }
        int oneIn = 1 + random.nextInt(6);
        for (int a = 0; a < fields; a++) {
            for (int b = 0; b < a; b++) {
                if (random.nextInt(oneIn) == 0 && text.length() < 95) {
                    text.append('h').append(a).append(b).append(random.nextInt(6) == 0 ? "l;" : ";");
                }
            }
        }
        return text.toString();
    }

    private String statements(int count) {
        StringBuilder text = new StringBuilder();
        for (int i = 0; i < count; i++) {
            text.append(statement());
        }
        if (random.nextInt(5) == 0) {
            int place = random.nextInt(text.length());
            char other = OTHERS.charAt(random.nextInt(OTHERS.length()));
            if (random.nextBoolean()) {
                text.setCharAt(place, other);
            } else {
                text.insert(place, other);
            }
        }
        return text.toString();
    }

    private String statement() {
        String way = "hhc".charAt(random.nextInt(3)) + "";
        switch (random.nextInt(9)) {
            case 0: return "f" + random.nextInt(10) + ";";
            case 1:
            case 2: return way + field() + field() + (way.equals("h") && random.nextInt(4) == 0 ? "l;" : ";");
            case 3: return "p" + random.nextInt(1000) + ";";
            case 4: return "p" + random.nextInt(1000) + "k" + person() + ";";
            case 5:
            case 6: return "w" + person() + field() + " " + random.nextInt(random.nextBoolean() ? 100 : 4) + ";";
            case 7: return "o" + person() + field() + ";";
            default: return "x" + random.nextInt(2) + random.nextInt(2) + ";";
        }
    }
}
