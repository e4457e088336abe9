import java.util.ArrayDeque;
import java.util.ArrayList;
import java.util.HashMap;
import java.util.List;
import java.util.Map;
import java.util.Random;

/** Promises 9 to 24 on many lands of all kinds, against plain counting out of all that could be. */
public final class OracleTest {
    private static final int NOBODY = 9;

    private final Random random;
    private final NoTwoTouch x = new NoTwoTouch();
    private int n;
    private int people;
    private boolean corners;
    private boolean kinCount;
    private int[] acres;
    private int[] owners;
    private int[] coins;
    private int[] kin;
    private int[][] touch;
    private int[][] worth;

    private OracleTest(int seed) {
        random = new Random(seed);
    }

    public static void main(String[] args) {
        for (int seed = 0; seed < 700; seed++) {
            OracleTest t = new OracleTest(seed);
            t.makeLand(seed);
            t.look();
            t.compareLaw();
            t.compareSearches();
            t.compareChains();
            t.compareFloods();
            t.compareGames();
            t.compareDeeds();
            t.compareLots();
            t.compareJudged();
            t.compareMoves();
        }
        Due.end();
    }

    // ---- the land, made by a text that must be without fault, and looked at by calls

    private void makeLand(int seed) {
        StringBuilder text = new StringBuilder();
        int fields = random.nextInt(seed % 3 == 0 ? 7 : 6);
        people = random.nextInt(4);
        for (int f = 0; f < fields; f++) {
            text.append('f').append(1 + random.nextInt(9)).append(';');
        }
        for (int p = 0; p < people; p++) {
            text.append('p').append(random.nextInt(4) == 0 ? 900 + random.nextInt(100) : random.nextInt(150));
            if (p > 0 && random.nextInt(2) == 0) {
                text.append('k').append(random.nextInt(p));
            }
            text.append(';');
        }
        text.append('x').append(random.nextInt(2)).append(random.nextInt(2)).append(';');
        Due.is("land", Due.read(x, text.toString()), fields + people + 1);
        for (int a = 0; a < fields; a++) {
            for (int b = 0; b < a; b++) {
                String[] ways = {"", "", "h%d%d;", "h%d%dl;", "c%d%d;"};
                String way = ways[random.nextInt(ways.length)];
                if (!way.isEmpty()) {
                    Due.is("touch", Due.read(x, String.format(way, a, b)), 1);
                }
            }
            for (int p = 0; p < people; p++) {
                if (random.nextInt(3) == 0) {
                    int some = random.nextInt(3) == 0 ? 0 : random.nextInt(100);
                    Due.is("worth", Due.read(x, String.format("w%d%d %d;", p, a, some)), 1);
                }
            }
            if (people > 0 && random.nextInt(seed % 2 + 2) == 0) {
                x.owns(random.nextInt(people), a);
            }
        }
    }

    private void look() {
        n = x.count(0);
        people = x.count(1);
        corners = x.law(0, 0) == 1;
        kinCount = x.law(1, 0) == 1;
        x.law(0, corners ? 1 : 0);
        x.law(1, kinCount ? 1 : 0);
        acres = new int[n];
        owners = new int[n];
        touch = new int[n][n];
        worth = new int[people][n];
        coins = new int[people];
        kin = new int[people];
        for (int a = 0; a < n; a++) {
            acres[a] = x.field(a, 0);
            owners[a] = x.field(a, 1) < 0 ? NOBODY : x.field(a, 1);
            for (int b = 0; b < n; b++) {
                touch[a][b] = a == b ? 0 : x.touch(a, b);
            }
        }
        for (int p = 0; p < people; p++) {
            coins[p] = x.person(p, 0);
            kin[p] = x.person(p, 1);
            for (int f = 0; f < n; f++) {
                worth[p][f] = x.worth(p, f);
            }
        }
    }

    private boolean bars(int a, int b) {
        return touch[a][b] == 1 || corners && touch[a][b] == 3;
    }

    private boolean lawful(int[] o) {
        return unlawful(o) < 0;
    }

    private int unlawful(int[] o) {
        for (int a = 0; a < n; a++) {
            for (int b = a + 1; b < n; b++) {
                if (o[a] != NOBODY && o[b] != NOBODY && bars(a, b)) {
                    boolean akin = kinCount && (kin[o[a]] == o[b] || kin[o[b]] == o[a]);
                    if (o[a] == o[b] || akin) {
                        return 10 * a + b;
                    }
                }
            }
        }
        return -4;
    }

    private int worthOf(int p, int[] o) {
        int sum = 0;
        for (int f = 0; f < n; f++) {
            sum += o[f] == p ? worth[p][f] : 0;
        }
        return sum;
    }

    private int worthOfAll(int[] o) {
        int sum = 0;
        for (int p = 0; p < people; p++) {
            sum += worthOf(p, o);
        }
        return sum;
    }

    private int[] numbersOf(int code, int base) {
        int[] digits = new int[n];
        int rest = code;
        for (int f = n - 1; f >= 0; f--) {
            digits[f] = rest % base;
            rest /= base;
        }
        return digits;
    }

    private int power(int base) {
        int product = 1;
        for (int f = 0; f < n; f++) {
            product *= base;
        }
        return product;
    }

    private List<int[]> ownings() {
        List<int[]> all = new ArrayList<>();
        for (int code = 0; code < power(people + 1); code++) {
            int[] o = numbersOf(code, people + 1);
            for (int f = 0; f < n; f++) {
                o[f] = o[f] == 0 ? NOBODY : o[f] - 1;
            }
            all.add(o);
        }
        return all;
    }

    // ---- what is due

    private void compareLaw() {
        Due.is("lawful", x.lawful(), lawful(owners) ? 1 : 0);
        Due.is("firstUnlawful", x.firstUnlawful(), unlawful(owners));
        for (int a = 0; a < n; a++) {
            int bits = 0;
            for (int b = 0; b < n; b++) {
                bits |= bars(a, b) ? 1 << b : 0;
            }
            Due.is("bars", x.field(a, 2), bits);
        }
    }

    private int[] bestOf(boolean musts) {
        int[] best = null;
        for (int[] o : ownings()) {
            boolean stays = true;
            for (int f = 0; f < n; f++) {
                stays &= !musts || owners[f] == NOBODY || owners[f] == o[f];
            }
            if (stays && lawful(o) && (best == null || worthOfAll(o) > worthOfAll(best))) {
                best = o;
            }
        }
        return best;
    }

    private void compareSearches() {
        int[] best = bestOf(false);
        int[] musts = bestOf(true);
        Due.is("best", x.best(-1), worthOfAll(best));
        Due.is("withMusts", x.withMusts(-1), musts == null ? -4 : worthOfAll(musts));
        for (int f = 0; f < n; f++) {
            Due.is("best of " + f, x.best(f), best[f] == NOBODY ? -4 : best[f]);
            Due.is("withMusts of " + f, x.withMusts(f), musts == null || musts[f] == NOBODY ? -4 : musts[f]);
        }
        int[] numbers = fewest();
        int most = 0;
        for (int f = 0; f < n; f++) {
            most = Math.max(most, numbers[f] + 1);
            Due.is("fewest of " + f, x.fewest(f), numbers[f]);
        }
        Due.is("fewest", x.fewest(-1), most);
        for (int p = 0; p < people; p++) {
            compareMost(p);
        }
    }

    private int[] fewest() {
        for (int k = n == 0 ? 0 : 1; k <= 6; k++) {
            for (int code = 0; code < power(k); code++) {
                int[] numbers = numbersOf(code, k);
                boolean good = true;
                for (int a = 0; a < n; a++) {
                    for (int b = 0; b < n; b++) {
                        good &= !bars(a, b) || numbers[a] != numbers[b];
                    }
                }
                if (good) {
                    return numbers;
                }
            }
        }
        throw new AssertionError("six are always enough");
    }

    private void compareMost(int p) {
        int most = -1;
        int mostBits = -1;
        for (int bits = 0; bits < 1 << n; bits++) {
            int sum = 0;
            boolean good = true;
            for (int a = 0; a < n; a++) {
                if ((bits & 1 << a) != 0) {
                    sum += worth[p][a];
                    good &= owners[a] == NOBODY || owners[a] == p;
                    for (int b = 0; b < n; b++) {
                        good &= (bits & 1 << b) == 0 || !bars(a, b);
                    }
                }
            }
            if (good && sum > most) {
                most = sum;
                mostBits = bits;
            }
        }
        Due.is("most bits", x.most(p, 0), mostBits);
        Due.is("most", x.most(p, 1), most);
    }

    private void compareChains() {
        Map<Integer, Integer> steps = new HashMap<>();
        ArrayDeque<int[]> waiting = new ArrayDeque<>();
        steps.put(key(owners), 0);
        waiting.add(owners);
        while (!waiting.isEmpty()) {
            int[] o = waiting.remove();
            for (int f = 0; f < n; f++) {
                for (int p = 0; p <= people; p++) {
                    int[] next = o.clone();
                    next[f] = p == people ? NOBODY : p;
                    if (!steps.containsKey(key(next)) && lawful(next)) {
                        steps.put(key(next), steps.get(key(o)) + 1);
                        waiting.add(next);
                    }
                }
            }
        }
        List<int[]> all = ownings();
        for (int i = 0; i < 6; i++) {
            int[] to = i == 0 ? owners : all.get(random.nextInt(all.size()));
            Due.bytes(x, 2, to);
            Due.is("chain", x.chain(2), steps.getOrDefault(key(to), -4));
        }
    }

    private int key(int[] o) {
        int key = 0;
        for (int f = 0; f < n; f++) {
            key = 10 * key + o[f];
        }
        return key;
    }

    private void compareFloods() {
        int frees = -4;
        int most = worthOfAll(bestOf(false));
        for (int a = 0; a < n; a++) {
            for (int b = 0; b < n; b++) {
                int was = touch[a][b];
                if (a != b) {
                    setTouch(a, b, 1);
                    Due.is("flood", x.flood(a, b), flooded());
                }
                if (a < b && was == 1) {
                    setTouch(a, b, 2);
                    int worthNow = worthOfAll(bestOf(false));
                    if (worthNow > most) {
                        most = worthNow;
                        frees = 10 * a + b;
                    }
                }
                setTouch(a, b, was);
            }
        }
        Due.is("frees", x.frees(), frees);
    }

    private void setTouch(int a, int b, int how) {
        touch[a][b] = how;
        touch[b][a] = how;
    }

    private int flooded() {
        int least = Integer.MAX_VALUE;
        int leastBits = -1;
        for (int bits = 0; bits < 1 << n; bits++) {
            int[] o = owners.clone();
            for (int f = 0; f < n; f++) {
                o[f] = (bits & 1 << f) == 0 ? o[f] : NOBODY;
            }
            int lost = worthOfAll(owners) - worthOfAll(o);
            if (lawful(o) && lost < least) {
                least = lost;
                leastBits = bits;
            }
        }
        return leastBits;
    }

    private boolean canTake(int[] o, int who, int f) {
        boolean can = o[f] == NOBODY;
        for (int g = 0; g < n; g++) {
            can &= o[g] != who || !bars(f, g);
        }
        return can;
    }

    private int[] taken(int[] o, int who, int f) {
        int[] next = o.clone();
        next[f] = who;
        return next;
    }

    private boolean moverWins(int[] o, int who) {
        for (int f = 0; f < n; f++) {
            if (canTake(o, who, f) && !moverWins(taken(o, who, f), 1 - who)) {
                return true;
            }
        }
        return false;
    }

    /** Fields that 0 takes from here on less those that 1 takes. */
    private int valueFrom(int[] o, int who, boolean waited) {
        int value = who == 0 ? -100 : 100;
        for (int f = 0; f < n; f++) {
            if (canTake(o, who, f)) {
                int one = (who == 0 ? 1 : -1) + valueFrom(taken(o, who, f), 1 - who, false);
                value = who == 0 ? Math.max(value, one) : Math.min(value, one);
            }
        }
        if (Math.abs(value) < 100) {
            return value;
        }
        return waited ? 0 : valueFrom(o, 1 - who, true);
    }

    private void compareGames() {
        if (people < 2) {
            Due.is("game", x.game(0), -3);
            return;
        }
        int field = -4;
        for (int f = n - 1; f >= 0; f--) {
            field = canTake(owners, 0, f) && !moverWins(taken(owners, 0, f), 1) ? f : field;
        }
        Due.is("game", x.game(0), moverWins(owners, 0) ? 1 : 0);
        Due.is("game field", x.game(1), field);
        Due.is("value", x.value(), valueFrom(owners, 0, false));
    }

    private void compareDeeds() {
        if (people == 0 || n == 0) {
            return;
        }
        int size = random.nextInt(9);
        int[] row = new int[3 * size];
        for (int i = 0; i < size; i++) {
            row[3 * i] = random.nextInt(people);
            row[3 * i + 1] = random.nextInt(n);
            row[3 * i + 2] = random.nextInt(2) * 9;
        }
        int best = -1;
        for (int bits = 0; bits < 1 << size; bits++) {
            boolean fewer = best < 0 || Integer.bitCount(bits) < Integer.bitCount(best);
            if (fewer && standing(row, bits)) {
                best = bits;
            }
        }
        Due.bytes(x, 3, row);
        Due.is("deeds", x.deeds(3, 0), best);
        Due.is("deeds struck", x.deeds(3, 1), Integer.bitCount(best));
    }

    private boolean standing(int[] row, int struck) {
        for (int year = 0; year < 10; year++) {
            int[] who = new int[n];
            java.util.Arrays.fill(who, NOBODY);
            for (int i = 0; i < row.length / 3; i++) {
                if ((struck & 1 << i) == 0 && row[3 * i + 2] == year) {
                    int f = row[3 * i + 1];
                    if (who[f] != NOBODY && who[f] != row[3 * i]) {
                        return false;
                    }
                    who[f] = row[3 * i];
                }
            }
            for (int a = 0; a < n; a++) {
                for (int b = 0; b < n; b++) {
                    if (who[a] != NOBODY && who[a] == who[b] && bars(a, b)) {
                        return false;
                    }
                }
            }
        }
        return true;
    }

    private void compareLots() {
        int z = random.nextInt();
        int[] o = owners.clone();
        int seed = z;
        for (int f = 0; f < n; f++) {
            if (o[f] == NOBODY) {
                seed = seed * 1103515245 + 12345;
                int draw = (seed & 0x7fffffff) / 65536 % (people + 1);
                int[] next = taken(o, draw == people ? NOBODY : draw, f);
                o = lawful(next) ? next : o;
            }
        }
        int owned = 0;
        for (int owner : o) {
            owned += owner == NOBODY ? 0 : 1;
        }
        Due.is("lots", x.lots(z, 0), owned);
        Due.is("worth of lots", x.lots(z, 1), worthOfAll(o));
    }

    private void compareJudged() {
        int[] row = new int[random.nextInt(8)];
        for (int i = 0; i < row.length; i++) {
            row[i] = random.nextInt(8) == 0 ? random.nextInt(12) - 1
                : i % 2 == 0 ? random.nextInt(people + 1) : random.nextInt(Math.max(n, 1));
            row[i] = i % 2 == 0 && row[i] == people ? NOBODY : row[i];
        }
        int[] o = owners.clone();
        int due = row.length % 2 == 1 ? row.length : -4;
        for (int i = 0; i + 1 < row.length; i += 2) {
            boolean there = row[i] == NOBODY || row[i] >= 0 && row[i] < people;
            if (!there || row[i + 1] < 0 || row[i + 1] >= n || !lawful(o = taken(o, row[i], row[i + 1]))) {
                due = i;
                break;
            }
        }
        Due.bytes(x, 2, row);
        Due.is("judge", x.judge(2), due);
    }

    // ---- moves, each done on what those ahead of it left

    private void compareMoves() {
        for (int i = 0; i < 12; i++) {
            int k = random.nextInt(8);
            int wfog = 0;
            for (int digit = 0; digit < 4; digit++) {
                wfog = 10 * wfog + random.nextInt(random.nextInt(12) == 0 ? 10 : digit == 0 ? Math.max(1, people) : Math.max(1, n));
            }
            Due.keep(x, k, wfog);
            compareMove(k, wfog / 1000, wfog / 100 % 10, wfog / 10 % 10, wfog % 10);
        }
    }

    private void compareMove(int k, int who, int f, int g, int figure) {
        boolean pair = k == 2 || k == 3 || k == 5;
        if (who >= people || f >= n || pair && g >= n || k == 3 && figure >= n) {
            Due.is("may", x.may(1, 0), -13);
            Due.is("wanted", x.may(1, 1), -13);
            Due.is("move", x.move(1), -13);
            return;
        }
        boolean told = asTold(k, who, f, g, figure);
        int[] before = owners.clone();
        int[] purses = coins.clone();
        int wasTouch = touch[f][pair ? g : f];
        if (told) {
            carryOut(k, who, f, g, figure);
        }
        boolean may = told && lawful(owners);
        boolean wanted = told;
        int changed = 0;
        for (int p = 0; p < people; p++) {
            may &= coins[p] >= 0;
            wanted &= k > 5 || worthOf(p, owners) >= worthOf(p, before);
        }
        for (int h = 0; h < n; h++) {
            changed += owners[h] == before[h] ? 0 : 1;
        }
        Due.is("may " + k, x.may(1, 0), may ? 1 : 0);
        Due.is("wanted " + k, x.may(1, 1), wanted ? 1 : 0);
        Due.is("move " + k, x.move(1), may ? changed : -3);
        if (!may) {
            owners = before;
            coins = purses;
            if (pair) {
                setTouch(f, g, wasTouch);
            }
        }
        for (int h = 0; h < n; h++) {
            Due.is("owner behind", x.field(h, 1), owners[h] == NOBODY ? -4 : owners[h]);
            Due.is("touch behind", h == f ? 0 : x.touch(f, h), touch[f][h]);
        }
        for (int p = 0; p < people; p++) {
            Due.is("coins behind", x.person(p, 0), coins[p]);
        }
    }

    private boolean asTold(int k, int who, int f, int g, int figure) {
        boolean owned = owners[f] == who;
        boolean[] told = {true, !owned, f != g, f != g && g != figure && f != figure, !owned, false, true, owned};
        return k == 5 ? touch[f][g] == 1 : told[k];
    }

    private void carryOut(int k, int who, int f, int g, int figure) {
        int price = 10 * acres[f] + figure;
        if (k == 1 || k == 4) {
            int paid = k == 4 ? 2 * price : price;
            coins[who] -= paid;
            if (owners[f] != NOBODY) {
                coins[owners[f]] = Math.min(999, coins[owners[f]] + paid);
            }
            owners[f] = who;
        } else if (k == 2) {
            int was = owners[f];
            owners[f] = owners[g];
            owners[g] = was;
        } else if (k == 3) {
            int last = owners[figure];
            owners[figure] = owners[g];
            owners[g] = owners[f];
            owners[f] = last;
        } else if (k == 5) {
            setTouch(f, g, 2);
            coins[who] -= 5 * figure;
        } else if (k > 5) {
            owners[f] = NOBODY;
            coins[who] = k == 6 ? coins[who] : Math.min(999, coins[who] + price / 2);
        }
    }
}
