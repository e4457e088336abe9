import java.util.ArrayList;
import java.util.Arrays;
import java.util.Collections;
import java.util.HashSet;
import java.util.List;
import java.util.Set;

/**
 * The document once more, sentence by sentence and in the plainest way: all that could be is gone through.
 * Its calls bear the names of the face, so that a run can be asked of both.
 */
final class Model {
    private static final int NOBODY = 9;
    private static final String[] COINS = {"0", "N", "ND", "NDD"};
    private static final String[] WORTHS = {"0", "N", "ND"};

    /** All that there is, but shelves. */
    private static final class World {
        final List<Integer> acres = new ArrayList<>();
        final List<Integer> owners = new ArrayList<>();
        final List<Integer> coins = new ArrayList<>();
        final List<Integer> kin = new ArrayList<>();
        final int[][] touch = new int[6][6];
        final int[][] worth = new int[3][6];
        final int[] law = new int[2];

        World copy() {
            World w = new World();
            w.acres.addAll(acres);
            w.owners.addAll(owners);
            w.coins.addAll(coins);
            w.kin.addAll(kin);
            for (int f = 0; f < 6; f++) {
                w.touch[f] = touch[f].clone();
            }
            for (int p = 0; p < 3; p++) {
                w.worth[p] = worth[p].clone();
            }
            w.law[0] = law[0];
            w.law[1] = law[1];
            return w;
        }

        int fields() {
            return acres.size();
        }

        int people() {
            return coins.size();
        }

        boolean hasField(int f) {
            return f >= 0 && f < fields();
        }

        boolean hasPerson(int p) {
            return p >= 0 && p < people();
        }

        boolean bar(int f, int g) {
            return touch[f][g] == 1 || touch[f][g] == 3 && law[0] == 1;
        }

        boolean one(int p, int q) {
            boolean akin = p != NOBODY && q != NOBODY && (kin.get(p) == q || kin.get(q) == p);
            return p != NOBODY && p == q || akin && law[1] == 1;
        }

        int worthTo(int p, List<Integer> owning) {
            int sum = 0;
            for (int f = 0; f < fields(); f++) {
                sum += owning.get(f) == p ? worth[p][f] : 0;
            }
            return sum;
        }

        int worthToAll(List<Integer> owning) {
            int sum = 0;
            for (int p = 0; p < people(); p++) {
                sum += worthTo(p, owning);
            }
            return sum;
        }

        boolean lawful(List<Integer> owning) {
            for (int f = 0; f < fields(); f++) {
                for (int g = 0; g < fields(); g++) {
                    if (bar(f, g) && one(owning.get(f), owning.get(g))) {
                        return false;
                    }
                }
            }
            return true;
        }

        boolean lawful() {
            return lawful(owners);
        }

        /** All ownings, the first by fields ahead: nobody first, then people. */
        List<List<Integer>> ownings() {
            List<List<Integer>> all = new ArrayList<>();
            all.add(Collections.emptyList());
            for (int f = 0; f < fields(); f++) {
                List<List<Integer>> longer = new ArrayList<>();
                for (List<Integer> start : all) {
                    for (int p = -1; p < people(); p++) {
                        List<Integer> next = new ArrayList<>(start);
                        next.add(p < 0 ? NOBODY : p);
                        longer.add(next);
                    }
                }
                all = longer;
            }
            return all;
        }

        List<Integer> best(boolean musts) {
            List<Integer> best = null;
            for (List<Integer> o : ownings()) {
                boolean stays = true;
                for (int f = 0; f < fields(); f++) {
                    stays &= !musts || owners.get(f) == NOBODY || owners.get(f).equals(o.get(f));
                }
                if (stays && (best == null || worthToAll(o) > worthToAll(best)) && lawful(o)) {
                    best = o;
                }
            }
            return best;
        }
    }

    private static final class Held {
        int[] move;
        int[] row;
        int sort;
    }

    private World now = new World();
    private World image;
    private final Held[] shelves = new Held[8];

    // ---- lands

    public int land(int d) {
        int refusal = bytesRefusal(d);
        if (refusal != 0) {
            return refusal;
        }
        int[] text = shelves[d].row;
        int place = firstThatCantBe(text);
        if (place >= 0) {
            return -1000 - place;
        }
        World after = now.copy();
        int statements = 0;
        int start = 0;
        for (int i = 0; i < text.length; i++) {
            if (text[i] == ';') {
                if (!carryOut(after, Arrays.copyOfRange(text, start, i))) {
                    return -2000 - start;
                }
                statements++;
                start = i + 1;
            }
        }
        now = after;
        return statements;
    }

    /** Every form that a statement can have: D is any digit, N one that is no 0. */
    private static List<String> forms() {
        List<String> forms = new ArrayList<>(List.of("fD;", "hDD;", "hDDl;", "cDD;", "oDD;", "xDD;"));
        for (String coins : COINS) {
            forms.add("p" + coins + ";");
            forms.add("p" + coins + "kD;");
        }
        for (String worth : WORTHS) {
            forms.add("wDD " + worth + ";");
        }
        return forms;
    }

    private static boolean fits(char form, int sign) {
        boolean digit = sign >= '0' && sign <= '9';
        return form == 'D' ? digit : form == 'N' ? digit && sign != '0' : form == sign;
    }

    private static int firstThatCantBe(int[] text) {
        Set<String> rests = new HashSet<>(forms());
        boolean whole = false;
        for (int i = 0; i < text.length; i++) {
            Set<String> next = new HashSet<>();
            for (String rest : rests) {
                if (fits(rest.charAt(0), text[i])) {
                    next.add(rest.substring(1));
                }
            }
            if (next.isEmpty()) {
                return i;
            }
            whole = next.remove("");
            rests = whole ? new HashSet<>(forms()) : next;
        }
        return whole ? -1 : text.length;
    }

    private static boolean carryOut(World w, int[] statement) {
        StringBuilder s = new StringBuilder();
        for (int sign : statement) {
            s.append((char) sign);
        }
        int a = s.charAt(1) - '0';
        int b = s.length() > 2 ? s.charAt(2) - '0' : -1;
        switch (s.charAt(0)) {
            case 'f': return field(w, a);
            case 'h': return join(w, a, b, s.length() == 4 ? 2 : 1);
            case 'c': return join(w, a, b, 3);
            case 'p': return person(w, s.substring(1));
            case 'w':
                if (!w.hasPerson(a) || !w.hasField(b)) {
                    return false;
                }
                w.worth[a][b] = Integer.parseInt(s.substring(4));
                return true;
            case 'o':
                if (!w.hasPerson(a) || !w.hasField(b)) {
                    return false;
                }
                w.owners.set(b, a);
                return true;
            default:
                w.law[0] = a;
                w.law[1] = b;
                return a < 2 && b < 2;
        }
    }

    private static boolean field(World w, int acres) {
        if (acres == 0 || w.fields() == 6) {
            return false;
        }
        for (int p = 0; p < 3; p++) {
            w.worth[p][w.fields()] = 10 * acres;
        }
        w.acres.add(acres);
        w.owners.add(NOBODY);
        return true;
    }

    private static boolean join(World w, int a, int b, int how) {
        if (!w.hasField(a) || !w.hasField(b) || a == b || w.touch[a][b] != 0) {
            return false;
        }
        w.touch[a][b] = how;
        w.touch[b][a] = how;
        return true;
    }

    private static boolean person(World w, String purse) {
        int k = purse.indexOf('k');
        int of = k < 0 ? -1 : purse.charAt(k + 1) - '0';
        if (w.people() == 3 || k >= 0 && !w.hasPerson(of)) {
            return false;
        }
        w.coins.add(Integer.parseInt(k < 0 ? purse : purse.substring(0, k)));
        w.kin.add(of);
        return true;
    }

    public int field(int field, int what) {
        if (!now.hasField(field)) {
            return -1;
        }
        int bits = 0;
        for (int g = 0; g < now.fields(); g++) {
            bits += now.bar(field, g) ? 1 << g : 0;
        }
        int owner = now.owners.get(field);
        return what == 0 ? now.acres.get(field) : what == 1 ? owner == NOBODY ? -4 : owner : what == 2 ? bits : -1;
    }

    public int touch(int a, int b) {
        return now.hasField(a) && now.hasField(b) && a != b ? now.touch[a][b] : -1;
    }

    public int person(int person, int what) {
        if (!now.hasPerson(person)) {
            return -1;
        }
        int bits = 0;
        for (int f = 0; f < now.fields(); f++) {
            bits += now.owners.get(f) == person ? 1 << f : 0;
        }
        int kin = now.kin.get(person);
        switch (what) {
            case 0: return now.coins.get(person);
            case 1: return kin < 0 ? -4 : kin;
            case 2: return bits;
            case 3: return now.worthTo(person, now.owners);
            default: return -1;
        }
    }

    public int worth(int person, int field) {
        return now.hasPerson(person) && now.hasField(field) ? now.worth[person][field] : -1;
    }

    public int law(int what, int is) {
        if (what != 0 && what != 1 || is != 0 && is != 1) {
            return -1;
        }
        int was = now.law[what];
        now.law[what] = is;
        return was;
    }

    public int owns(int person, int field) {
        if (person != NOBODY && !now.hasPerson(person) || !now.hasField(field)) {
            return -1;
        }
        return now.owners.set(field, person);
    }

    // ---- the law, moves

    public int lawful() {
        return now.lawful() ? 1 : 0;
    }

    public int firstUnlawful() {
        for (int number = 0; number < 60; number++) {
            int a = number / 10;
            int b = number % 10;
            if (a < b && now.hasField(b) && now.bar(a, b) && now.one(now.owners.get(a), now.owners.get(b))) {
                return number;
            }
        }
        return -4;
    }

    private int moveRefusal(int d) {
        if (shelves[d] == null) {
            return -11;
        }
        int[] m = shelves[d].move;
        if (m == null) {
            return -12;
        }
        boolean there = now.hasPerson(m[1]) && now.hasField(m[2]);
        boolean two = m[0] == 2 || m[0] == 3 || m[0] == 5;
        there &= !two || now.hasField(m[3]);
        there &= m[0] != 3 || now.hasField(m[4]);
        return there ? 0 : -13;
    }

    private static boolean asTold(World w, int[] m) {
        int owner = w.owners.get(m[2]);
        switch (m[0]) {
            case 1: return owner != m[1];
            case 2: return m[2] != m[3];
            case 3: return m[2] != m[3] && m[3] != m[4] && m[4] != m[2];
            case 4: return owner != m[1];
            case 5: return w.touch[m[2]][m[3]] == 1;
            case 7: return owner == m[1];
            default: return true;
        }
    }

    private static void pay(World w, int who, int sum) {
        if (who != NOBODY) {
            w.coins.set(who, Math.min(999, w.coins.get(who) + sum));
        }
    }

    private static World behind(World w, int[] m) {
        World next = w.copy();
        int price = 10 * w.acres.get(m[2]) + m[4];
        int paid = m[0] == 1 ? price : m[0] == 4 ? 2 * price : m[0] == 5 ? 5 * m[4] : m[0] == 7 ? -(price / 2) : 0;
        pay(next, m[1], -paid);
        if (m[0] == 1 || m[0] == 4) {
            pay(next, w.owners.get(m[2]), paid);
            next.owners.set(m[2], m[1]);
        }
        if (m[0] == 2) {
            next.owners.set(m[2], w.owners.get(m[3]));
            next.owners.set(m[3], w.owners.get(m[2]));
        }
        if (m[0] == 3) {
            next.owners.set(m[3], w.owners.get(m[2]));
            next.owners.set(m[4], w.owners.get(m[3]));
            next.owners.set(m[2], w.owners.get(m[4]));
        }
        if (m[0] == 5) {
            next.touch[m[2]][m[3]] = 2;
            next.touch[m[3]][m[2]] = 2;
        }
        if (m[0] == 6 || m[0] == 7) {
            next.owners.set(m[2], NOBODY);
        }
        return next;
    }

    private static boolean mayBe(World w, int[] m) {
        if (!asTold(w, m)) {
            return false;
        }
        World next = behind(w, m);
        return next.lawful() && (next.coins.isEmpty() || Collections.min(next.coins) >= 0);
    }

    private static boolean wanted(World w, int[] m) {
        if (!asTold(w, m) || m[0] == 6 || m[0] == 7) {
            return asTold(w, m);
        }
        World next = behind(w, m);
        for (int p = 0; p < w.people(); p++) {
            boolean others = false;
            for (int f = 0; f < w.fields(); f++) {
                others |= w.owners.get(f) == p != (next.owners.get(f) == p);
            }
            if (others && next.worthTo(p, next.owners) < w.worthTo(p, w.owners)) {
                return false;
            }
        }
        return true;
    }

    public int may(int d, int what) {
        if (d < 0 || d > 7 || what != 0 && what != 1) {
            return -1;
        }
        int refusal = moveRefusal(d);
        if (refusal != 0) {
            return refusal;
        }
        int[] m = shelves[d].move;
        return (what == 0 ? mayBe(now, m) : wanted(now, m)) ? 1 : 0;
    }

    public int move(int d) {
        int may = may(d, 0);
        if (may < 1) {
            return may == 0 ? -3 : may;
        }
        World next = behind(now, shelves[d].move);
        int others = 0;
        for (int f = 0; f < now.fields(); f++) {
            others += now.owners.get(f).equals(next.owners.get(f)) ? 0 : 1;
        }
        now = next;
        return others;
    }

    public int judge(int d) {
        int refusal = bytesRefusal(d);
        if (refusal != 0) {
            return refusal;
        }
        int[] row = shelves[d].row;
        List<Integer> owning = new ArrayList<>(now.owners);
        for (int i = 0; i + 1 < row.length; i += 2) {
            if (row[i] != NOBODY && !now.hasPerson(row[i]) || !now.hasField(row[i + 1])) {
                return i;
            }
            owning.set(row[i + 1], row[i]);
            if (!now.lawful(owning)) {
                return i;
            }
        }
        return row.length % 2 == 0 ? -4 : row.length;
    }

    // ---- the fewest, the most, the best

    private static boolean apart(World w, List<Integer> numbers, int f, int number) {
        for (int g = 0; g < f; g++) {
            if (w.bar(f, g) && numbers.get(g) == number) {
                return false;
            }
        }
        return true;
    }

    /** All numberings with the numbers below people, in order. */
    private static List<List<Integer>> numberings(World w, int people) {
        List<List<Integer>> all = new ArrayList<>();
        all.add(Collections.emptyList());
        for (int f = 0; f < w.fields(); f++) {
            List<List<Integer>> longer = new ArrayList<>();
            for (List<Integer> start : all) {
                for (int number = 0; number < people; number++) {
                    if (apart(w, start, f, number)) {
                        List<Integer> next = new ArrayList<>(start);
                        next.add(number);
                        longer.add(next);
                    }
                }
            }
            all = longer;
        }
        return all;
    }

    public int fewest(int field) {
        if (field != -1 && !now.hasField(field)) {
            return -1;
        }
        int people = 0;
        while (numberings(now, people).isEmpty()) {
            people++;
        }
        return field == -1 ? people : numberings(now, people).get(0).get(field);
    }

    public int most(int person, int what) {
        if (!now.hasPerson(person) || what != 0 && what != 1) {
            return -1;
        }
        int mostBits = -1;
        int most = -1;
        for (int bits = 0; bits < 1 << now.fields(); bits++) {
            int worth = 0;
            for (int f = 0; f < now.fields() && worth >= 0; f++) {
                if ((bits & 1 << f) != 0) {
                    int owner = now.owners.get(f);
                    boolean may = (owner == NOBODY || owner == person) && (field(f, 2) & bits) == 0;
                    worth = may ? worth + now.worth[person][f] : -1;
                }
            }
            mostBits = worth > most ? bits : mostBits;
            most = Math.max(most, worth);
        }
        return what == 0 ? mostBits : most;
    }

    private int bestOf(int field, boolean musts) {
        if (field != -1 && !now.hasField(field)) {
            return -1;
        }
        List<Integer> best = now.best(musts);
        if (best == null) {
            return -4;
        }
        return field == -1 ? now.worthToAll(best) : best.get(field) == NOBODY ? -4 : best.get(field);
    }

    public int best(int field) {
        return bestOf(field, false);
    }

    public int withMusts(int field) {
        return bestOf(field, true);
    }

    public int chain(int d) {
        int refusal = bytesRefusal(d);
        if (refusal != 0) {
            return refusal;
        }
        List<Integer> goal = new ArrayList<>();
        for (int p : shelves[d].row) {
            if (p != NOBODY && !now.hasPerson(p)) {
                return -13;
            }
            goal.add(p);
        }
        if (goal.size() != now.fields()) {
            return -13;
        }
        Set<List<Integer>> reached = new HashSet<>();
        reached.add(now.owners);
        for (int changes = 0;; changes++) {
            if (reached.contains(goal)) {
                return changes;
            }
            Set<List<Integer>> wider = new HashSet<>(reached);
            for (List<Integer> from : reached) {
                addChanged(wider, from);
            }
            if (wider.size() == reached.size()) {
                return -4;
            }
            reached = wider;
        }
    }

    private void addChanged(Set<List<Integer>> wider, List<Integer> from) {
        for (int f = 0; f < now.fields(); f++) {
            for (int p = -1; p < now.people(); p++) {
                List<Integer> to = new ArrayList<>(from);
                to.set(f, p < 0 ? NOBODY : p);
                if (!wider.contains(to) && now.lawful(to)) {
                    wider.add(to);
                }
            }
        }
    }

    public int flood(int a, int b) {
        if (!now.hasField(a) || !now.hasField(b) || a == b) {
            return -1;
        }
        World mind = now.copy();
        mind.touch[a][b] = 1;
        mind.touch[b][a] = 1;
        int leastBits = -1;
        int leastLost = Integer.MAX_VALUE;
        for (int bits = 0; bits < 1 << mind.fields(); bits++) {
            List<Integer> left = new ArrayList<>(mind.owners);
            for (int f = 0; f < left.size(); f++) {
                left.set(f, (bits & 1 << f) == 0 ? left.get(f) : NOBODY);
            }
            int lost = mind.worthToAll(mind.owners) - mind.worthToAll(left);
            if (mind.lawful(left) && lost < leastLost) {
                leastLost = lost;
                leastBits = bits;
            }
        }
        return leastBits;
    }

    public int frees() {
        int most = now.worthToAll(now.best(false));
        int found = -4;
        for (int number = 1; number < 60; number++) {
            int a = number / 10;
            int b = number % 10;
            if (a < b && now.hasField(b) && now.touch[a][b] == 1) {
                World laned = now.copy();
                laned.touch[a][b] = 2;
                laned.touch[b][a] = 2;
                int worth = laned.worthToAll(laned.best(false));
                found = worth > most ? number : found;
                most = Math.max(worth, most);
            }
        }
        return found;
    }

    // ---- games, deeds, lots

    private List<Integer> takes(List<Integer> owning, int who) {
        List<Integer> takes = new ArrayList<>();
        for (int f = 0; f < now.fields(); f++) {
            boolean may = owning.get(f) == NOBODY;
            for (int g = 0; g < now.fields(); g++) {
                may &= owning.get(g) != who || !now.bar(f, g);
            }
            if (may) {
                takes.add(f);
            }
        }
        return takes;
    }

    private static List<Integer> taken(List<Integer> owning, int f, int who) {
        List<Integer> next = new ArrayList<>(owning);
        next.set(f, who);
        return next;
    }

    private boolean wins(List<Integer> owning, int who) {
        for (int f : takes(owning, who)) {
            if (!wins(taken(owning, f, who), 1 - who)) {
                return true;
            }
        }
        return false;
    }

    public int game(int what) {
        if (what != 0 && what != 1) {
            return -1;
        }
        if (now.people() < 2) {
            return -3;
        }
        for (int f : takes(now.owners, 0)) {
            if (!wins(taken(now.owners, f, 0), 1)) {
                return what == 0 ? 1 : f;
            }
        }
        return what == 0 ? 0 : -4;
    }

    private int valueFrom(List<Integer> owning, int who) {
        List<Integer> takes = takes(owning, who);
        if (takes.isEmpty()) {
            return takes(owning, 1 - who).isEmpty() ? 0 : valueFrom(owning, 1 - who);
        }
        List<Integer> values = new ArrayList<>();
        for (int f : takes) {
            values.add((who == 0 ? 1 : -1) + valueFrom(taken(owning, f, who), 1 - who));
        }
        return who == 0 ? Collections.max(values) : Collections.min(values);
    }

    public int value() {
        return now.people() < 2 ? -3 - 1000000000 : valueFrom(now.owners, 0);
    }

    public int deeds(int d, int what) {
        int refusal = what != 0 && what != 1 ? -1 : bytesRefusal(d);
        if (refusal != 0) {
            return refusal;
        }
        int[] row = shelves[d].row;
        if (row.length % 3 != 0 || row.length > 24) {
            return -13;
        }
        for (int i = 0; i < row.length; i += 3) {
            if (!now.hasPerson(row[i]) || !now.hasField(row[i + 1]) || row[i + 2] < 0 || row[i + 2] > 9) {
                return -13;
            }
        }
        for (int count = 0;; count++) {
            for (int bits = 0; bits < 1 << row.length / 3; bits++) {
                if (Integer.bitCount(bits) == count && canAllHaveBeen(row, bits)) {
                    return what == 0 ? bits : count;
                }
            }
        }
    }

    private boolean canAllHaveBeen(int[] row, int struck) {
        for (int i = 0; i < row.length; i += 3) {
            for (int j = 0; j < row.length; j += 3) {
                boolean stand = (struck >> i / 3 & 1) == 0 && (struck >> j / 3 & 1) == 0;
                if (stand && row[i + 2] == row[j + 2]) {
                    boolean barred = row[i] == row[j] && now.bar(row[i + 1], row[j + 1]);
                    if (barred || row[i] != row[j] && row[i + 1] == row[j + 1]) {
                        return false;
                    }
                }
            }
        }
        return true;
    }

    public int lots(int z, int what) {
        if (what != 0 && what != 1) {
            return -1;
        }
        List<Integer> owning = now.owners;
        long seed = z;
        for (int f = 0; f < now.fields(); f++) {
            if (now.owners.get(f) == NOBODY) {
                seed = (int) (seed * 1103515245L + 12345L);
                int draw = (int) ((seed & 0x7fffffffL) / 65536L % (now.people() + 1));
                List<Integer> next = taken(owning, f, draw == now.people() ? NOBODY : draw);
                owning = now.lawful(next) ? next : owning;
            }
        }
        return what == 0 ? now.fields() - Collections.frequency(owning, NOBODY) : now.worthToAll(owning);
    }

    // ---- the image, what is told

    public int image() {
        image = now.copy();
        return now.fields();
    }

    public int restore() {
        if (image == null) {
            return -3;
        }
        now = image.copy();
        return now.fields();
    }

    public int count(int what) {
        int[] touching = new int[4];
        for (int a = 0; a < now.fields(); a++) {
            for (int b = 0; b < a; b++) {
                touching[now.touch[a][b]]++;
            }
        }
        switch (what) {
            case 0: return now.fields();
            case 1: return now.people();
            case 2: return now.acres.stream().mapToInt(Integer::intValue).sum();
            case 3: return now.fields() - Collections.frequency(now.owners, NOBODY);
            case 4: return touching[1] + touching[2];
            case 5: return touching[2];
            case 6: return touching[3];
            case 7: return now.coins.stream().mapToInt(Integer::intValue).sum();
            default: return -1;
        }
    }

    // ---- shelves

    private int bytesRefusal(int d) {
        if (d < 0 || d > 7) {
            return -1;
        }
        if (shelves[d] == null) {
            return -11;
        }
        return shelves[d].row == null || shelves[d].sort != 0 ? -12 : 0;
    }

    public int keep(int d, int what, int k, int wfog) {
        if (d < 0 || d > 7 || what != 0 && what != 1 || what == 1 && (k < 0 || k > 7 || wfog < 0 || wfog > 9999)) {
            return -1;
        }
        shelves[d] = null;
        if (what == 1) {
            shelves[d] = new Held();
            shelves[d].move = new int[] {k, wfog / 1000, wfog / 100 % 10, wfog / 10 % 10, wfog % 10};
        }
        return 0;
    }

    public int row(int d, int sort, int n) {
        if (d < 0 || d > 7 || sort < 0 || sort > 2 || n > 100) {
            return -1;
        }
        if (n < 0) {
            return -14;
        }
        shelves[d] = new Held();
        shelves[d].row = new int[n];
        shelves[d].sort = sort;
        return 0;
    }

    public int put(int d, int i, int v) {
        if (d < 0 || d > 7) {
            return -1;
        }
        Held held = shelves[d];
        if (held == null || held.row == null) {
            return held == null ? -11 : -12;
        }
        if (i < 0 || i >= held.row.length) {
            return -13;
        }
        int unused = held.sort == 0 ? 24 : held.sort == 1 ? 16 : 0;
        held.row[i] = v << unused >> unused;
        return 0;
    }

    public long element(int d, int i) throws IllegalArgumentException, IllegalStateException {
        if (d < 0 || d > 7) {
            throw new IllegalArgumentException();
        }
        Held held = shelves[d];
        if (held == null || held.row == null || i < 0 || i >= held.row.length) {
            throw new IllegalStateException();
        }
        return held.row[i];
    }

    public int copy(int d, int i, int e, int j, int n) {
        if (d < 0 || d > 7 || e < 0 || e > 7) {
            return -1;
        }
        Held from = shelves[d];
        Held to = shelves[e];
        if (from == null || to == null) {
            return -11;
        }
        if (from.row == null || to.row == null || from.sort != to.sort) {
            return -12;
        }
        if (i < 0 || j < 0 || n < 0 || (long) i + n > from.row.length || (long) j + n > to.row.length) {
            return -13;
        }
        int[] elements = Arrays.copyOfRange(from.row, i, i + n);
        for (int c = 0; c < n; c++) {
            to.row[j + c] = elements[c];
        }
        return n;
    }

    private static int feeOf(int k, int figure) {
        switch (k) {
            case 1: return feeOf(0, figure) + figure;
            case 2: return feeOf(0, figure) * 3;
            case 3: return feeOf(2, figure) + 1;
            case 4: return feeOf(1, figure) * 2;
            case 5: return feeOf(0, figure) + 7;
            case 6: return feeOf(0, figure) - 2;
            case 7: return feeOf(1, figure) - figure;
            default: return 2;
        }
    }

    public int fee(int d) {
        if (d < 0 || d > 7) {
            return -1;
        }
        Held held = shelves[d];
        if (held == null || held.move == null) {
            return held == null ? -11 : -12;
        }
        return feeOf(held.move[0], held.move[4]);
    }

    public int toss(int d) {
        int fee = fee(d);
        if (fee < 0) {
            return fee;
        }
        int k = shelves[d].move[0];
        int figure = shelves[d].move[4];
        if (k == 6 || figure == 0) {
            return -15;
        }
        return k == 7 ? 200 + fee : k == 3 ? 100 + figure : figure;
    }
}
