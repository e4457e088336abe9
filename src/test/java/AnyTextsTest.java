import java.util.Random;
import java.util.regex.Matcher;
import java.util.regex.Pattern;

/** Promise 2 on many texts, against a pattern for the signs and a plain reading of the statements. */
public final class AnyTextsTest {
    private static final Pattern SIGNS = Pattern.compile(
        "(?:f\\d;|h\\d\\dl?;|[cox]\\d\\d;|p(?:0|[1-9]\\d{0,2})(?:k\\d)?;|w\\d\\d (?:0|[1-9]\\d?);)+");
    private static final String OTHERS = "fhcpwox;0123456789 lkF/:";
    private static final int NOBODY = 9;

    private final Random random;
    private int fields = 0;
    private int people = 0;
    private int corners = 0;
    private int kinCount = 0;
    private final int[] acres = new int[6];
    private final int[] owners = new int[6];
    private final int[][] touch = new int[6][6];
    private final int[] coins = new int[3];
    private final int[] kin = new int[3];
    private final int[][] worth = new int[3][6];

    private AnyTextsTest(int seed) {
        random = new Random(seed);
    }

    public static void main(String[] args) {
        for (int seed = 0; seed < 6000; seed++) {
            new AnyTextsTest(seed).run(seed);
        }
        Due.end();
    }

    private void run(int seed) {
        NoTwoTouch x = new NoTwoTouch();
        int texts = 1 + random.nextInt(6);
        for (int i = 0; i < texts; i++) {
            String text = i == 0 && random.nextInt(8) > 0 ? "f1;f9;f5;p70;p0k0;" : text();
            AnyTextsTest was = new AnyTextsTest(seed);
            was.takeFrom(this);
            int due = read(text);
            if (due < 0) {
                takeFrom(was);
            }
            Due.is("land of " + text, Due.read(x, text), due);
            compare(x);
        }
    }

    // ---- texts

    private String text() {
        StringBuilder text = new StringBuilder();
        for (int i = random.nextInt(random.nextInt(12) + 1); i >= 0; i--) {
            String statement = statement();
            if (text.length() + statement.length() <= 100) {
                text.append(statement);
            }
        }
        if (random.nextInt(4) == 0) {
            int place = random.nextInt(text.length());
            char other = OTHERS.charAt(random.nextInt(OTHERS.length()));
            switch (random.nextInt(4)) {
                case 0: text.setCharAt(place, other); break;
                case 1: text.deleteCharAt(place); break;
                case 2: text.setLength(place); break;
                default: text.replace(place, place + 1, "" + other + other); break;
            }
        }
        return text.length() > 100 ? text.substring(0, 100) : text.toString();
    }

    /** A digit that is most often below a number: that of one who is there. */
    private int digit(int below) {
        return below == 0 || random.nextInt(20) == 0 ? random.nextInt(10) : random.nextInt(below);
    }

    private String statement() {
        int f = digit(fields);
        int g = digit(fields);
        int p = digit(people);
        switch (random.nextInt(8)) {
            case 0: return "f" + digit(10) + ";";
            case 1: return "h" + f + g + (random.nextBoolean() ? "l;" : ";");
            case 2: return "c" + f + g + ";";
            case 3: return "p" + random.nextInt(1010) + ";";
            case 4: return "p" + random.nextInt(100) + "k" + p + ";";
            case 5: return "w" + p + f + " " + random.nextInt(105) + ";";
            case 6: return "o" + p + f + ";";
            default: return "x" + digit(2) + digit(2) + ";";
        }
    }

    // ---- what is due

    private static boolean canGoOn(String start) {
        Matcher m = SIGNS.matcher(start);
        return m.matches() || m.hitEnd();
    }

    private int read(String text) {
        for (int size = 1; size <= text.length(); size++) {
            if (!canGoOn(text.substring(0, size))) {
                return -1000 - (size - 1);
            }
        }
        if (!text.endsWith(";")) {
            return -1000 - text.length();
        }
        int place = 0;
        int statements = 0;
        for (String statement : text.split(";")) {
            if (!carryOut(statement)) {
                return -2000 - place;
            }
            place += statement.length() + 1;
            statements++;
        }
        return statements;
    }

    private boolean carryOut(String s) {
        int a = s.charAt(1) - '0';
        int b = s.length() > 2 ? s.charAt(2) - '0' : 0;
        switch (s.charAt(0)) {
            case 'f': return addField(a);
            case 'h': return join(a, b, s.endsWith("l") ? 2 : 1);
            case 'c': return join(a, b, 3);
            case 'p': return addPerson(s.substring(1).split("k"));
            case 'w': return a < people && b < fields && setWorth(a, b, Integer.parseInt(s.substring(4)));
            case 'o':
                if (a >= people || b >= fields) {
                    return false;
                }
                owners[b] = a;
                return true;
            default:
                if (a > 1 || b > 1) {
                    return false;
                }
                corners = a;
                kinCount = b;
                return true;
        }
    }

    private boolean addField(int size) {
        if (size == 0 || fields == 6) {
            return false;
        }
        acres[fields] = size;
        owners[fields] = NOBODY;
        for (int p = 0; p < 3; p++) {
            worth[p][fields] = 10 * size;
        }
        fields++;
        return true;
    }

    private boolean join(int a, int b, int how) {
        if (a >= fields || b >= fields || a == b || touch[a][b] != 0) {
            return false;
        }
        touch[a][b] = how;
        touch[b][a] = how;
        return true;
    }

    private boolean addPerson(String[] purseAndKin) {
        int of = purseAndKin.length > 1 ? Integer.parseInt(purseAndKin[1]) : -4;
        if (people == 3 || of >= people) {
            return false;
        }
        coins[people] = Integer.parseInt(purseAndKin[0]);
        kin[people] = of;
        people++;
        return true;
    }

    private boolean setWorth(int p, int f, int is) {
        worth[p][f] = is;
        return true;
    }

    private void takeFrom(AnyTextsTest other) {
        fields = other.fields;
        people = other.people;
        corners = other.corners;
        kinCount = other.kinCount;
        for (int f = 0; f < 6; f++) {
            acres[f] = other.acres[f];
            owners[f] = other.owners[f];
            System.arraycopy(other.touch[f], 0, touch[f], 0, 6);
        }
        for (int p = 0; p < 3; p++) {
            coins[p] = other.coins[p];
            kin[p] = other.kin[p];
            System.arraycopy(other.worth[p], 0, worth[p], 0, 6);
        }
    }

    private void compare(NoTwoTouch x) {
        Due.is("fields", x.count(0), fields);
        Due.is("people", x.count(1), people);
        Due.is("corners", x.law(0, corners), corners);
        Due.is("kin", x.law(1, kinCount), kinCount);
        for (int f = 0; f < fields; f++) {
            Due.is("acres", x.field(f, 0), acres[f]);
            Due.is("owner", x.field(f, 1), owners[f] == NOBODY ? -4 : owners[f]);
            for (int g = 0; g < fields; g++) {
                Due.is("touch", x.touch(f, g), f == g ? -1 : touch[f][g]);
            }
            for (int p = 0; p < people; p++) {
                Due.is("worth", x.worth(p, f), worth[p][f]);
            }
        }
        for (int p = 0; p < people; p++) {
            Due.is("coins", x.person(p, 0), coins[p]);
            Due.is("kin of one", x.person(p, 1), kin[p]);
        }
    }
}
