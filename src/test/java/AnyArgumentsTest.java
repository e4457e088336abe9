import java.lang.reflect.InvocationTargetException;
import java.lang.reflect.Method;
import java.lang.reflect.Modifier;
import java.util.ArrayList;
import java.util.Comparator;
import java.util.List;
import java.util.Random;

/** The face is the document's, and no call throws or changes what it shouldn't, whatever it is asked. */
public final class AnyArgumentsTest {
    private static final String[] FACE = {
        "best 1", "chain 1", "copy 5", "count 1", "deeds 2", "element 2", "fee 1", "fewest 1", "field 2",
        "firstUnlawful 0", "flood 2", "frees 0", "game 1", "image 0", "judge 1", "keep 4", "land 1", "law 2",
        "lawful 0", "lots 2", "may 2", "most 2", "move 1", "owns 2", "person 2", "put 3", "restore 0", "row 3",
        "toss 1", "touch 2", "value 0", "withMusts 1", "worth 2",
    };
    private static final String[] CHANGING = {"land", "law", "owns", "move", "restore", "keep", "row", "put", "copy", "image"};
    private static final String LETTERS = "fhcpwox;0123456789 lk";

    public static void main(String[] args) throws IllegalAccessException {
        List<Method> face = face();
        for (int seed = 0; seed < 400; seed++) {
            run(face, new Random(seed));
        }
        Due.end();
    }

    private static List<Method> face() {
        List<Method> face = new ArrayList<>();
        for (Method m : NoTwoTouch.class.getDeclaredMethods()) {
            if (Modifier.isPublic(m.getModifiers())) {
                face.add(m);
            } else {
                Due.is(m.getName() + " is private", Modifier.isPrivate(m.getModifiers()) ? 1 : 0, 1);
            }
        }
        face.sort(Comparator.comparing(Method::getName));
        Due.is("methods", face.size(), FACE.length);
        for (int i = 0; i < face.size() && i < FACE.length; i++) {
            String name = face.get(i).getName() + " " + face.get(i).getParameterCount();
            Due.is(name + " for " + FACE[i], name.equals(FACE[i]) ? 1 : 0, 1);
            boolean element = name.equals("element 2");
            Due.is(name + " answers as told", face.get(i).getReturnType() == (element ? long.class : int.class) ? 1 : 0, 1);
            Due.is(name + " is of an object", Modifier.isStatic(face.get(i).getModifiers()) ? 0 : 1, 1);
            List<Class<?>> thrown = List.of(face.get(i).getExceptionTypes());
            List<Class<?>> due = element ? List.of(IllegalArgumentException.class, IllegalStateException.class) : List.of();
            Due.is(name + " throws as told", thrown.equals(due) ? 1 : 0, 1);
            for (Class<?> parameter : face.get(i).getParameterTypes()) {
                Due.is(name + " takes ints", parameter == int.class ? 1 : 0, 1);
            }
        }
        int modifiers = NoTwoTouch.class.getModifiers();
        Due.is("public and final", Modifier.isPublic(modifiers) && Modifier.isFinal(modifiers) ? 1 : 0, 1);
        Due.is("public fields", NoTwoTouch.class.getFields().length, 0);
        Due.is("constructors", NoTwoTouch.class.getDeclaredConstructors().length, 1);
        Due.is("a public one", NoTwoTouch.class.getConstructors().length, 1);
        Due.is("of nothing", NoTwoTouch.class.getDeclaredConstructors()[0].getParameterCount(), 0);
        return face;
    }

    private static void run(List<Method> face, Random random) throws IllegalAccessException {
        NoTwoTouch x = new NoTwoTouch();
        boolean there = random.nextInt(8) > 0;
        if (there) {
            Due.read(x, "f1;f2;f9;f4;h01;h12l;c02;h23;p50;p5k0;p700;o00;o12;");
        }
        for (int i = 0; i < 300; i++) {
            Method m = face.get(random.nextInt(face.size()));
            if (random.nextInt(6) == 0) {
                textRow(x, random);
            }
            Object[] arguments = new Object[m.getParameterCount()];
            for (int a = 0; a < arguments.length; a++) {
                arguments[a] = argument(random, a);
            }
            call(x, m, arguments);
        }
    }

    private static int argument(Random random, int place) {
        switch (random.nextInt(12)) {
            case 0: return random.nextInt();
            case 1: return random.nextInt(300) - 100;
            case 2: return random.nextBoolean() ? Integer.MIN_VALUE : Integer.MAX_VALUE;
            case 3: return place == 3 ? random.nextInt(3333) : random.nextInt(10) - 1;
            default: return random.nextInt(place == 3 ? 3333 : 4);
        }
    }

    private static void textRow(NoTwoTouch x, Random random) {
        int size = random.nextInt(12);
        int d = random.nextInt(4);
        x.row(d, 0, size);
        for (int i = 0; i < size; i++) {
            boolean sign = random.nextBoolean();
            x.put(d, i, sign ? LETTERS.charAt(random.nextInt(LETTERS.length())) : random.nextInt(5));
        }
    }

    private static void call(NoTwoTouch x, Method m, Object[] arguments) throws IllegalAccessException {
        String name = m.getName();
        String before = State.of(x);
        long answer = 0;
        try {
            answer = ((Number) m.invoke(x, arguments)).longValue();
        } catch (InvocationTargetException e) {
            Throwable thrown = e.getCause();
            boolean may = thrown.getClass() == IllegalArgumentException.class
                || thrown.getClass() == IllegalStateException.class;
            Due.is(name + " throws " + thrown, name.equals("element") && may ? 1 : 0, 1);
        }
        boolean changes = false;
        for (String changing : CHANGING) {
            changes |= changing.equals(name);
        }
        if (!changes || answer < 0) {
            Due.is(name + " changes nothing", State.of(x).equals(before) ? 1 : 0, 1);
        }
    }
}
