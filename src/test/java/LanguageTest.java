import java.io.IOException;
import java.lang.reflect.Field;
import java.lang.reflect.Method;
import java.lang.reflect.Modifier;
import java.nio.file.Files;
import java.nio.file.Path;
import java.util.ArrayList;
import java.util.List;
import java.util.regex.Matcher;
import java.util.regex.Pattern;

/** What of LANGUAGE.md can be told from the source's text and from the compiled classes. */
public final class LanguageTest {
    private static final String[] BANNED = {
        "->", "::", "\\bfinally\\b", "\\bsynchronized\\b", "\\bassert\\b", "\\bpackage\\b", "\\bvar\\b", "Exact\\(",
        "\\bgetMessage\\b", "\\bhashCode\\b", "\\btoString\\b", "\\bequals\\b", "\\bMath\\.random\\b", "\\bSystem\\.(?!arraycopy)",
        "\\bThread\\b", "static \\{", "\"\\s*\\+", "\\+\\s*\"", "\\bprotected\\b", "\\bcatch \\((?!IllegalStateException )",
        "\\bthrow (?!new )", "\\bInteger\\.(?!bitCount\\()", "\\bObject\\b", "\\bdouble\\b", "\\bfloat\\b",
    };

    /** The face in the document's order, with what the interface says ahead of its calls. */
    private static final String[] ORDER = {
        "lands", "land", "field", "touch", "person", "worth", "law", "owns",
        "the law, moves", "lawful", "firstUnlawful", "may", "move", "judge",
        "the fewest, the most, the best", "fewest", "most", "best", "withMusts", "chain", "flood", "frees",
        "games, deeds, lots", "game", "value", "deeds", "lots",
        "the image, what is told", "image", "restore", "count",
        "shelves", "keep", "row", "put", "element", "copy", "fee", "toss",
    };

    public static void main(String[] args) throws IOException {
        String source = Files.readString(Path.of("src/main/java/NoTwoTouch.java"));
        texts(withoutComments(source));
        methodLengths(source);
        order(source);
        List<Class<?>> classes = new ArrayList<>(List.of(NoTwoTouch.class.getDeclaredClasses()));
        for (Class<?> c : classes) {
            int modifiers = c.getModifiers();
            Due.is(c + " is static", Modifier.isStatic(modifiers) ? 1 : 0, 1);
            Due.is(c + " is hidden", Modifier.isPublic(modifiers) || Modifier.isProtected(modifiers) ? 0 : 1, 1);
        }
        classes.add(NoTwoTouch.class);
        Due.is("some twelve classes", classes.size() <= 12 ? 1 : 0, 1);
        for (Class<?> c : classes) {
            fields(c);
            methods(c);
        }
        Due.end();
    }

    private static String withoutComments(String source) {
        return source.replaceAll("(?s)/\\*.*?\\*/", "").replaceAll("//[^\n]*", "");
    }

    private static void texts(String source) {
        for (String banned : BANNED) {
            Matcher m = Pattern.compile(banned).matcher(source);
            Due.is("places of " + banned, m.results().count(), 0);
        }
        for (String line : source.split("\n")) {
            if (line.startsWith("import ")) {
                boolean may = line.matches("import java\\.util\\.(Arrays|ArrayList|List|Iterator);");
                Due.is(line, may ? 1 : 0, 1);
            }
        }
        Due.is("signs are 1 to 127", source.chars().allMatch(c -> c > 0 && c < 128) ? 1 : 0, 1);
    }

    private static void order(String source) {
        Matcher m = Pattern.compile("(?m)^    (?:// ---- (.*)|public (?:int|long) (\\w+)\\(.*)$").matcher(source);
        for (String due : ORDER) {
            String found = m.find() ? m.group(1) != null ? m.group(1) : m.group(2) : "nothing";
            Due.is(found + " for " + due, found.equals(due) ? 1 : 0, 1);
        }
    }

    /** A method starts with a line that ends in ") {" or "throws .. {", and ends at a brace of its indent. */
    private static void methodLengths(String source) {
        String[] lines = source.split("\n");
        Pattern head = Pattern.compile("^(    |        )[a-zA-Z].*\\).* \\{$");
        for (int i = 0; i < lines.length; i++) {
            Matcher m = head.matcher(lines[i]);
            if (m.matches() && !lines[i].trim().matches("(if|for|while|switch|try|do|else|return)\\b.*")) {
                int end = i;
                while (end < lines.length && !lines[end].equals(m.group(1) + "}")) {
                    end++;
                }
                Due.is(lines[i].trim() + " is short", end - i < 60 ? 1 : 0, 1);
            }
        }
    }

    private static void fields(Class<?> c) {
        int own = 0;
        for (Field f : c.getDeclaredFields()) {
            int modifiers = f.getModifiers();
            boolean isStatic = Modifier.isStatic(modifiers);
            own += isStatic ? 0 : 1;
            Due.is(f + " is final if static", isStatic && !Modifier.isFinal(modifiers) ? 0 : 1, 1);
            if (c == NoTwoTouch.class) {
                Due.is(f + " is private", Modifier.isPrivate(modifiers) ? 1 : 0, 1);
            }
        }
        Due.is(c + " has some twenty fields", own <= 20 ? 1 : 0, 1);
    }

    private static void methods(Class<?> c) {
        for (Method m : c.getDeclaredMethods()) {
            Due.is(m + " is written", m.isSynthetic() ? 0 : 1, 1);
            Due.is(m + " has at most seven parameters", m.getParameterCount() <= 7 ? 1 : 0, 1);
            for (Method face : NoTwoTouch.class.getMethods()) {
                boolean same = face.getName().equals(m.getName()) && face.getDeclaringClass() == NoTwoTouch.class;
                Due.is(m + " bears its own name", same && !m.equals(face) ? 0 : 1, 1);
            }
        }
    }
}
