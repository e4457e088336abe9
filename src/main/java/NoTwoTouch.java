import java.util.Arrays;

public final class NoTwoTouch {
    private static final int NO_SUCH = -1;
    private static final int NOT_NOW = -3;
    private static final int NONE = -4;
    private static final int NOTHING_HELD = -11;
    private static final int OTHER_KIND = -12;
    private static final int NO_PLACE = -13;
    private static final int SIZE_BELOW_ZERO = -14;
    private static final int NO_FAILURE = -15;
    private static final int VALUE_NOT_NOW = -1000000003;

    private static final int MOST_FIELDS = 6;
    private static final int MOST_PEOPLE = 3;
    private static final int MOST_COINS = 999;
    private static final int MOST_DEEDS = 8;
    private static final int MOST_ELEMENTS = 100;
    private static final int MOST_SHELVES = 8;
    private static final int NOBODY = 9;
    private static final int PLAYERS = 2;
    private static final int MOST_INT = 0x7fffffff;

    private static final int APART = 0;
    private static final int HEDGED = 1;
    private static final int LANED = 2;
    private static final int CORNERED = 3;

    private static final int MOVE = 0;
    private static final int BUY = 1;
    private static final int SWAP = 2;
    private static final int ROUND = 3;
    private static final int BAR = 4;
    private static final int LANE = 5;
    private static final int TOLD = 6;
    private static final int SELL = 7;

    private static final int HOLDS_NOTHING = 0;
    private static final int HOLDS_MOVE = 1;
    private static final int HOLDS_ROW = 2;

    private static final int BYTES = 0;
    private static final int SHORTS = 1;
    private static final int INTS = 2;

    private final Land now = new Land();
    private final Land mind = new Land();
    private final Land imaged = new Land();
    private boolean imageTaken = false;
    private final Shelf[] shelves = new Shelf[MOST_SHELVES];
    private final LandReader reader = new LandReader();
    private final Sharing sharing = new Sharing();
    private final Numbering numbering = new Numbering();
    private final Changes changes = new Changes();
    private final Play play = new Play();
    private final DeedBook deedBook = new DeedBook();

    public NoTwoTouch() {
        for (int d = 0; d < shelves.length; d++) {
            shelves[d] = new Shelf();
        }
    }

    // ---- lands

    public int land(int d) {
        Shelf shelf = shelfAt(d);
        if (shelf == null) {
            return NO_SUCH;
        }
        int refusal = shelf.bytesRefusal();
        if (refusal != 0) {
            return refusal;
        }
        int statements = reader.countStatements(shelf);
        if (statements < 0) {
            return statements;
        }
        mind.copyFrom(now);
        int fault = reader.carryOut(mind, shelf, statements);
        if (fault < 0) {
            return fault;
        }
        now.copyFrom(mind);
        return statements;
    }

    public int field(int field, int what) {
        if (!now.isField(field) || what < 0 || what > 2) {
            return NO_SUCH;
        }
        if (what == 0) {
            return now.acresOf(field);
        }
        return what == 1 ? orNone(now.ownerOf(field)) : now.barBits(field);
    }

    public int touch(int a, int b) {
        return now.areTwo(a, b) ? now.touchOf(a, b) : NO_SUCH;
    }

    public int person(int person, int what) {
        if (!now.isPerson(person)) {
            return NO_SUCH;
        }
        switch (what) {
            case 0: return now.coinsOf(person);
            case 1: return orNone(now.kinOf(person));
            case 2: return now.fieldBits(person);
            case 3: return now.worthOwned(person);
            default: return NO_SUCH;
        }
    }

    public int worth(int person, int field) {
        if (!now.isPerson(person) || !now.isField(field)) {
            return NO_SUCH;
        }
        return now.worthTo(person, field);
    }

    public int law(int what, int is) {
        if (what < 0 || what > 1 || is < 0 || is > 1) {
            return NO_SUCH;
        }
        boolean was = what == 0 ? now.cornersCount : now.kinCount;
        now.setLaw(what, is == 1);
        return was ? 1 : 0;
    }

    public int owns(int person, int field) {
        if (!now.isOwner(person) || !now.isField(field)) {
            return NO_SUCH;
        }
        int was = now.ownerOf(field);
        now.give(person, field);
        return was;
    }

    // ---- the law, moves

    public int lawful() {
        return now.isLawful() ? 1 : 0;
    }

    public int firstUnlawful() {
        return now.firstOffence(0);
    }

    public int may(int d, int what) {
        Shelf shelf = shelfAt(d);
        if (shelf == null || what < 0 || what > 1) {
            return NO_SUCH;
        }
        int refusal = moveRefusal(shelf);
        if (refusal != 0) {
            return refusal;
        }
        boolean is = what == 0 ? mayBeDone(shelf.move) : isWanted(shelf.move);
        return is ? 1 : 0;
    }

    public int move(int d) {
        Shelf shelf = shelfAt(d);
        if (shelf == null) {
            return NO_SUCH;
        }
        int refusal = moveRefusal(shelf);
        if (refusal != 0) {
            return refusal;
        }
        if (!mayBeDone(shelf.move)) {
            return NOT_NOW;
        }
        int changed = 0;
        for (int f = 0; f < now.fields; f++) {
            changed += mind.ownerOf(f) == now.ownerOf(f) ? 0 : 1;
        }
        now.copyFrom(mind);
        return changed;
    }

    public int judge(int d) {
        Shelf shelf = shelfAt(d);
        if (shelf == null) {
            return NO_SUCH;
        }
        int refusal = shelf.bytesRefusal();
        if (refusal != 0) {
            return refusal;
        }
        mind.copyFrom(now);
        for (int i = 0; i + 1 < shelf.size; i += 2) {
            boolean there = mind.give(shelf.at(i), shelf.at(i + 1));
            if (!there || !mind.isLawful()) {
                return i;
            }
        }
        return shelf.size % 2 == 1 ? shelf.size : NONE;
    }

    // ---- the fewest, the most, the best

    public int fewest(int field) {
        if (field != -1 && !now.isField(field)) {
            return NO_SUCH;
        }
        int people = numbering.fewestFor(now);
        return field == -1 ? people : numbering.numberOf(field);
    }

    public int most(int person, int what) {
        if (!now.isPerson(person) || what < 0 || what > 1) {
            return NO_SUCH;
        }
        int bits = mostBits(person);
        return what == 0 ? bits : now.worthOfBits(person, bits);
    }

    public int best(int field) {
        if (field != -1 && !now.isField(field)) {
            return NO_SUCH;
        }
        sharing.search(now, false);
        return field == -1 ? sharing.worthFound : orNone(sharing.ownerFound(field));
    }

    public int withMusts(int field) {
        if (field != -1 && !now.isField(field)) {
            return NO_SUCH;
        }
        if (!now.isLawful()) {
            return NONE;
        }
        sharing.search(now, true);
        return field == -1 ? sharing.worthFound : orNone(sharing.ownerFound(field));
    }

    public int chain(int d) {
        Shelf shelf = shelfAt(d);
        if (shelf == null) {
            return NO_SUCH;
        }
        int refusal = shelf.bytesRefusal();
        if (refusal != 0) {
            return refusal;
        }
        if (shelf.size != now.fields) {
            return NO_PLACE;
        }
        mind.copyFrom(now);
        for (int f = 0; f < now.fields; f++) {
            if (!mind.give(shelf.at(f), f)) {
                return NO_PLACE;
            }
        }
        return changes.fewestBetween(now, mind);
    }

    public int flood(int a, int b) {
        if (!now.areTwo(a, b)) {
            return NO_SUCH;
        }
        mind.copyFrom(now);
        mind.setTouch(a, b, HEDGED);
        int leastBits = 0;
        int leastLoss = MOST_INT;
        for (int bits = 0; bits < 1 << mind.fields; bits++) {
            int loss = mind.worthToOwners(bits);
            if (loss < leastLoss && mind.firstOffence(bits) == NONE) {
                leastLoss = loss;
                leastBits = bits;
            }
        }
        return leastBits;
    }

    public int frees() {
        mind.copyFrom(now);
        sharing.search(mind, false);
        int most = sharing.worthFound;
        int answer = NONE;
        for (int a = 0; a < mind.fields; a++) {
            for (int b = a + 1; b < mind.fields; b++) {
                if (mind.touchOf(a, b) == HEDGED) {
                    int worth = worthWithLane(a, b);
                    answer = worth > most ? 10 * a + b : answer;
                    most = Math.max(most, worth);
                }
            }
        }
        return answer;
    }

    // ---- games, deeds, lots

    public int game(int what) {
        if (what < 0 || what > 1) {
            return NO_SUCH;
        }
        if (now.people < PLAYERS) {
            return NOT_NOW;
        }
        int field = play.winningField(now);
        if (what == 0) {
            return field == NONE ? 0 : 1;
        }
        return field;
    }

    public int value() {
        return now.people < PLAYERS ? VALUE_NOT_NOW : play.lead(now);
    }

    public int deeds(int d, int what) {
        Shelf shelf = shelfAt(d);
        if (shelf == null || what < 0 || what > 1) {
            return NO_SUCH;
        }
        int refusal = shelf.bytesRefusal();
        if (refusal != 0) {
            return refusal;
        }
        if (!deedBook.write(now, shelf)) {
            return NO_PLACE;
        }
        int bits = deedBook.fewestStruck();
        return what == 0 ? bits : Integer.bitCount(bits);
    }

    public int lots(int z, int what) {
        if (what < 0 || what > 1) {
            return NO_SUCH;
        }
        mind.copyFrom(now);
        int seed = z;
        for (int f = 0; f < mind.fields; f++) {
            if (mind.ownerOf(f) == NOBODY) {
                seed = seed * 1103515245 + 12345;
                drawInMind(f, drawBelow(seed, mind.people + 1));
            }
        }
        int all = (1 << mind.fields) - 1;
        return what == 0 ? mind.ownedCount() : mind.worthToOwners(all);
    }

    // ---- the image, what is told

    public int image() {
        imaged.copyFrom(now);
        imageTaken = true;
        return now.fields;
    }

    public int restore() {
        if (!imageTaken) {
            return NOT_NOW;
        }
        now.copyFrom(imaged);
        return now.fields;
    }

    public int count(int what) {
        switch (what) {
            case 0: return now.fields;
            case 1: return now.people;
            case 2: return now.allAcres();
            case 3: return now.ownedCount();
            case 4: return now.touchCount(HEDGED) + now.touchCount(LANED);
            case 5: return now.touchCount(LANED);
            case 6: return now.touchCount(CORNERED);
            case 7: return now.allCoins();
            default: return NO_SUCH;
        }
    }

    // ---- shelves

    public int keep(int d, int what, int k, int wfog) {
        Shelf shelf = shelfAt(d);
        if (shelf == null || what < 0 || what > 1) {
            return NO_SUCH;
        }
        if (what == 0) {
            shelf.held = HOLDS_NOTHING;
            return 0;
        }
        if (k < MOVE || k > SELL || wfog < 0 || wfog > 9999) {
            return NO_SUCH;
        }
        shelf.held = HOLDS_MOVE;
        shelf.move.become(k, wfog);
        return 0;
    }

    public int row(int d, int sort, int n) {
        Shelf shelf = shelfAt(d);
        if (shelf == null || sort < BYTES || sort > INTS || n > MOST_ELEMENTS) {
            return NO_SUCH;
        }
        if (n < 0) {
            return SIZE_BELOW_ZERO;
        }
        shelf.becomeRow(sort, n);
        return 0;
    }

    public int put(int d, int i, int v) {
        Shelf shelf = shelfAt(d);
        if (shelf == null) {
            return NO_SUCH;
        }
        int refusal = shelf.refusalUnless(HOLDS_ROW);
        if (refusal != 0) {
            return refusal;
        }
        return shelf.set(i, v) ? 0 : NO_PLACE;
    }

    public long element(int d, int i) throws IllegalArgumentException, IllegalStateException {
        Shelf shelf = shelfAt(d);
        if (shelf == null) {
            throw new IllegalArgumentException("no such shelf");
        }
        if (shelf.held != HOLDS_ROW) {
            throw new IllegalStateException("no row is held");
        }
        if (!shelf.isPlace(i)) {
            throw new IllegalStateException("no such place");
        }
        return shelf.at(i);
    }

    public int copy(int d, int i, int e, int j, int n) {
        Shelf from = shelfAt(d);
        Shelf to = shelfAt(e);
        if (from == null || to == null) {
            return NO_SUCH;
        }
        if (from.held == HOLDS_NOTHING || to.held == HOLDS_NOTHING) {
            return NOTHING_HELD;
        }
        if (from.held != HOLDS_ROW || to.held != HOLDS_ROW || from.sort != to.sort) {
            return OTHER_KIND;
        }
        if (!from.hasPlaces(i, n) || !to.hasPlaces(j, n)) {
            return NO_PLACE;
        }
        System.arraycopy(from.elements, i, to.elements, j, n);
        return n;
    }

    public int fee(int d) {
        Shelf shelf = shelfAt(d);
        if (shelf == null) {
            return NO_SUCH;
        }
        int refusal = shelf.refusalUnless(HOLDS_MOVE);
        return refusal != 0 ? refusal : shelf.move.feeAsked();
    }

    public int toss(int d) {
        Shelf shelf = shelfAt(d);
        if (shelf == null) {
            return NO_SUCH;
        }
        int refusal = shelf.refusalUnless(HOLDS_MOVE);
        return refusal != 0 ? refusal : caughtFailure(shelf.move);
    }

    // ---- what the calls share

    private Shelf shelfAt(int d) {
        return d >= 0 && d < shelves.length ? shelves[d] : null;
    }

    private static int orNone(int person) {
        return person == NOBODY ? NONE : person;
    }

    private int moveRefusal(Shelf shelf) {
        int refusal = shelf.refusalUnless(HOLDS_MOVE);
        if (refusal == 0 && !shelf.move.isThere(now)) {
            return NO_PLACE;
        }
        return refusal;
    }

    /** Leaves in mind what there is behind the move, for move to take over. */
    private boolean mayBeDone(Move move) {
        mind.copyFrom(now);
        if (!move.isAsTold(mind)) {
            return false;
        }
        move.doOn(mind);
        return mind.isLawful() && mind.nobodyOwes();
    }

    private boolean isWanted(Move move) {
        if (!move.isAsTold(now)) {
            return false;
        }
        if (move.kind == TOLD || move.kind == SELL) {
            return true;
        }
        mind.copyFrom(now);
        move.doOn(mind);
        for (int p = 0; p < now.people; p++) {
            // One whose fields stay has the same worth, so only those with others can have less.
            if (mind.worthOwned(p) < now.worthOwned(p)) {
                return false;
            }
        }
        return true;
    }

    private int mostBits(int person) {
        int othersBits = 0;
        for (int f = 0; f < now.fields; f++) {
            int owner = now.ownerOf(f);
            othersBits |= owner == NOBODY || owner == person ? 0 : 1 << f;
        }
        int mostBits = 0;
        int mostWorth = 0;
        for (int bits = 0; bits < 1 << now.fields; bits++) {
            int worth = now.worthOfBits(person, bits);
            if (worth > mostWorth && (bits & othersBits) == 0 && !now.barWithin(bits)) {
                mostWorth = worth;
                mostBits = bits;
            }
        }
        return mostBits;
    }

    private int worthWithLane(int a, int b) {
        mind.setTouch(a, b, LANED);
        sharing.search(mind, false);
        mind.setTouch(a, b, HEDGED);
        return sharing.worthFound;
    }

    private static int drawBelow(int seed, int n) {
        return n > 0 ? (seed & MOST_INT) / 65536 % n : 0;
    }

    private void drawInMind(int field, int person) {
        if (person >= mind.people) {
            return;
        }
        mind.give(person, field);
        if (!mind.isLawful()) {
            mind.give(NOBODY, field);
        }
    }

    private static int caughtFailure(Move move) {
        try {
            move.throwFailure();
        } catch (IllegalStateException failure) {
            return move.failureNumber();
        }
        return NO_FAILURE;
    }

    /** All that there is, but shelves; every place that isn't there is answered for harmlessly. */
    private static final class Land {
        int fields = 0;
        int people = 0;
        boolean cornersCount = false;
        boolean kinCount = false;
        private final int[] acres = new int[MOST_FIELDS];
        private final int[] owners = new int[MOST_FIELDS];
        private final int[] touches = new int[MOST_FIELDS * MOST_FIELDS];
        private final int[] coins = new int[MOST_PEOPLE];
        private final int[] kin = new int[MOST_PEOPLE];
        private final int[] worths = new int[MOST_PEOPLE * MOST_FIELDS];

        void copyFrom(Land other) {
            fields = other.fields;
            people = other.people;
            cornersCount = other.cornersCount;
            kinCount = other.kinCount;
            System.arraycopy(other.acres, 0, acres, 0, acres.length);
            System.arraycopy(other.owners, 0, owners, 0, owners.length);
            System.arraycopy(other.touches, 0, touches, 0, touches.length);
            System.arraycopy(other.coins, 0, coins, 0, coins.length);
            System.arraycopy(other.kin, 0, kin, 0, kin.length);
            System.arraycopy(other.worths, 0, worths, 0, worths.length);
        }

        boolean isField(int f) {
            return f >= 0 && f < fields && f < MOST_FIELDS;
        }

        boolean isPerson(int p) {
            return p >= 0 && p < people && p < MOST_PEOPLE;
        }

        boolean isOwner(int p) {
            return p == NOBODY || isPerson(p);
        }

        boolean areTwo(int a, int b) {
            return isField(a) && isField(b) && a != b;
        }

        int acresOf(int f) {
            return isField(f) ? acres[f] : 0;
        }

        int ownerOf(int f) {
            return isField(f) ? owners[f] : NOBODY;
        }

        int touchOf(int a, int b) {
            return isField(a) && isField(b) ? touches[a * MOST_FIELDS + b] : APART;
        }

        int coinsOf(int p) {
            return isPerson(p) ? coins[p] : 0;
        }

        int kinOf(int p) {
            return isPerson(p) ? kin[p] : NOBODY;
        }

        int worthTo(int p, int f) {
            return isPerson(p) && isField(f) ? worths[p * MOST_FIELDS + f] : 0;
        }

        boolean addField(int size) {
            if (size < 1 || size > 9 || fields < 0 || fields >= MOST_FIELDS) {
                return false;
            }
            int f = fields;
            fields++;
            acres[f] = size;
            owners[f] = NOBODY;
            for (int p = 0; p < people; p++) {
                setWorth(p, f, 10 * size);
            }
            return true;
        }

        boolean addPerson(int purse, int kinOfOne) {
            if (people < 0 || people >= MOST_PEOPLE || !isOwner(kinOfOne)) {
                return false;
            }
            int p = people;
            people++;
            coins[p] = purse;
            kin[p] = kinOfOne;
            for (int f = 0; f < fields; f++) {
                setWorth(p, f, 10 * acresOf(f));
            }
            return true;
        }

        boolean join(int a, int b, int how) {
            if (!areTwo(a, b) || touchOf(a, b) != APART) {
                return false;
            }
            setTouch(a, b, how);
            return true;
        }

        void setTouch(int a, int b, int how) {
            if (areTwo(a, b)) {
                touches[a * MOST_FIELDS + b] = how;
                touches[b * MOST_FIELDS + a] = how;
            }
        }

        boolean setWorth(int p, int f, int worth) {
            if (!isPerson(p) || !isField(f)) {
                return false;
            }
            worths[p * MOST_FIELDS + f] = worth;
            return true;
        }

        void setLaw(int what, boolean is) {
            if (what == 0) {
                cornersCount = is;
            } else {
                kinCount = is;
            }
        }

        boolean give(int p, int f) {
            if (!isOwner(p) || !isField(f)) {
                return false;
            }
            owners[f] = p;
            return true;
        }

        void earn(int p, int sum) {
            if (isPerson(p)) {
                coins[p] = Math.min(MOST_COINS, coins[p] + sum);
            }
        }

        boolean nobodyOwes() {
            for (int p = 0; p < people; p++) {
                if (coinsOf(p) < 0) {
                    return false;
                }
            }
            return true;
        }

        boolean bars(int a, int b) {
            if (!isField(a) || !isField(b)) {
                return false;
            }
            int how = touches[a * MOST_FIELDS + b];
            return how == HEDGED || how == CORNERED && cornersCount;
        }

        int barBits(int f) {
            int bits = 0;
            for (int g = 0; g < fields; g++) {
                bits |= bars(f, g) ? 1 << g : 0;
            }
            return bits;
        }

        void writeBars(int[] bars) {
            for (int f = 0; f < bars.length; f++) {
                bars[f] = barBits(f);
            }
        }

        boolean barWithin(int bits) {
            for (int f = 0; f < fields; f++) {
                if ((bits >> f & 1) == 1 && (barBits(f) & bits) != 0) {
                    return true;
                }
            }
            return false;
        }

        /** Whether the law takes the two for one owner. */
        boolean asOne(int p, int q) {
            if (!isPerson(p) || !isPerson(q)) {
                return false;
            }
            return p == q || kinCount && (kin[p] == q || kin[q] == p);
        }

        boolean isLawful() {
            return firstOffence(0) == NONE;
        }

        int firstOffence(int soldBits) {
            for (int a = 0; a < fields; a++) {
                for (int b = a + 1; b < fields; b++) {
                    boolean sold = (soldBits >> a & 1) == 1 || (soldBits >> b & 1) == 1;
                    if (!sold && bars(a, b) && asOne(ownerOf(a), ownerOf(b))) {
                        return 10 * a + b;
                    }
                }
            }
            return NONE;
        }

        int fieldBits(int p) {
            int bits = 0;
            for (int f = 0; f < fields; f++) {
                bits |= ownerOf(f) == p ? 1 << f : 0;
            }
            return bits;
        }

        int worthOfBits(int p, int bits) {
            int worth = 0;
            for (int f = 0; f < fields; f++) {
                worth += (bits >> f & 1) == 1 ? worthTo(p, f) : 0;
            }
            return worth;
        }

        int worthOwned(int p) {
            return worthOfBits(p, fieldBits(p));
        }

        int worthToOwners(int bits) {
            int worth = 0;
            for (int f = 0; f < fields; f++) {
                worth += (bits >> f & 1) == 1 ? worthTo(ownerOf(f), f) : 0;
            }
            return worth;
        }

        int greatestWorth(int f) {
            int worth = 0;
            for (int p = 0; p < people; p++) {
                worth = Math.max(worth, worthTo(p, f));
            }
            return worth;
        }

        int allAcres() {
            int sum = 0;
            for (int f = 0; f < fields; f++) {
                sum += acresOf(f);
            }
            return sum;
        }

        int ownedCount() {
            int owned = 0;
            for (int f = 0; f < fields; f++) {
                owned += ownerOf(f) == NOBODY ? 0 : 1;
            }
            return owned;
        }

        int touchCount(int how) {
            int touching = 0;
            for (int a = 0; a < fields; a++) {
                for (int b = a + 1; b < fields; b++) {
                    touching += touchOf(a, b) == how ? 1 : 0;
                }
            }
            return touching;
        }

        int allCoins() {
            int sum = 0;
            for (int p = 0; p < people; p++) {
                sum += coinsOf(p);
            }
            return sum;
        }
    }

    /** Reads a text twice: first its signs alone, as their faults go ahead of all others. */
    private static final class LandReader {
        private static final int FAULT = -1000;

        private int at = 0;
        private int letter = 0;
        private int first = 0;
        private int second = 0;
        private int figure = 0;
        private boolean marked = false;

        /** The fault where the signs can be no land. */
        int countStatements(Shelf text) {
            at = 0;
            int statements = 0;
            while (statements == 0 || at < text.size && statements < text.size) {
                if (!takeStatement(text)) {
                    return FAULT - at;
                }
                statements++;
            }
            return statements;
        }

        int carryOut(Land land, Shelf text, int statements) {
            at = 0;
            for (int n = 0; n < statements; n++) {
                int place = at;
                takeStatement(text);
                if (!carryOutOne(land)) {
                    return 2 * FAULT - place;
                }
            }
            return 0;
        }

        /** Where it answers false, at is the place of the first sign that can't be. */
        private boolean takeStatement(Shelf text) {
            letter = text.at(at);
            if (!isLetter()) {
                return false;
            }
            at++;
            return takeBehindLetter(text) && takeSign(text, ';');
        }

        private boolean isLetter() {
            switch (letter) {
                case 'f':
                case 'h':
                case 'c':
                case 'p':
                case 'w':
                case 'o':
                case 'x':
                    return true;
                default:
                    return false;
            }
        }

        private boolean takeBehindLetter(Shelf text) {
            switch (letter) {
                case 'f': return takeDigits(text, 1);
                case 'h': return takeDigits(text, 2) && takeLane(text);
                case 'p': return takeFigure(text, 3) && takeKin(text);
                case 'w': return takeDigits(text, 2) && takeSign(text, ' ') && takeFigure(text, 2);
                default: return takeDigits(text, 2);
            }
        }

        private boolean takeSign(Shelf text, int sign) {
            if (text.at(at) != sign) {
                return false;
            }
            at++;
            return true;
        }

        private static boolean isDigit(int sign) {
            return sign >= '0' && sign <= '9';
        }

        private boolean takeDigits(Shelf text, int n) {
            for (int i = 0; i < n; i++) {
                int sign = text.at(at);
                if (!isDigit(sign)) {
                    return false;
                }
                if (i == 0) {
                    first = sign - '0';
                } else {
                    second = sign - '0';
                }
                at++;
            }
            return true;
        }

        private boolean takeLane(Shelf text) {
            marked = takeSign(text, 'l');
            return true;
        }

        private boolean takeKin(Shelf text) {
            marked = takeSign(text, 'k');
            return !marked || takeDigits(text, 1);
        }

        private boolean takeFigure(Shelf text, int mostDigits) {
            int digits = 0;
            figure = 0;
            while (digits < mostDigits && isDigit(text.at(at)) && (digits == 0 || figure > 0)) {
                figure = 10 * figure + text.at(at) - '0';
                at++;
                digits++;
            }
            return digits > 0;
        }

        private boolean carryOutOne(Land land) {
            switch (letter) {
                case 'f': return land.addField(first);
                case 'h': return land.join(first, second, marked ? LANED : HEDGED);
                case 'c': return land.join(first, second, CORNERED);
                case 'p': return carryOutPerson(land);
                case 'w': return land.setWorth(first, second, figure);
                case 'o': return land.isPerson(first) && land.give(first, second);
                default: return carryOutLaw(land);
            }
        }

        private boolean carryOutPerson(Land land) {
            if (!marked) {
                return land.addPerson(figure, NOBODY);
            }
            return land.isPerson(first) && land.addPerson(figure, first);
        }

        private boolean carryOutLaw(Land land) {
            if (first > 1 || second > 1) {
                return false;
            }
            land.setLaw(0, first == 1);
            land.setLaw(1, second == 1);
            return true;
        }
    }

    private static final class Move {
        private static final int PLAIN_FEE = 2;

        int kind = MOVE;
        private int who = 0;
        private int field = 0;
        private int other = 0;
        private int figure = 0;

        void become(int k, int wfog) {
            kind = k;
            who = wfog / 1000 % 10;
            field = wfog / 100 % 10;
            other = wfog / 10 % 10;
            figure = wfog % 10;
        }

        boolean isThere(Land land) {
            if (!land.isPerson(who) || !land.isField(field)) {
                return false;
            }
            boolean needsOther = kind == SWAP || kind == ROUND || kind == LANE;
            if (needsOther && !land.isField(other)) {
                return false;
            }
            return kind != ROUND || land.isField(figure);
        }

        boolean isAsTold(Land land) {
            switch (kind) {
                case BUY:
                case BAR: return land.ownerOf(field) != who;
                case SWAP: return field != other;
                case ROUND: return field != other && field != figure && other != figure;
                case LANE: return land.touchOf(field, other) == HEDGED;
                case SELL: return land.ownerOf(field) == who;
                default: return true;
            }
        }

        private int priceIn(Land land) {
            return 10 * land.acresOf(field) + figure;
        }

        void doOn(Land land) {
            switch (kind) {
                case BUY:
                    buyFor(land, priceIn(land));
                    break;
                case BAR:
                    buyFor(land, 2 * priceIn(land));
                    break;
                case SWAP:
                    goRound(land, other);
                    break;
                case ROUND:
                    goRound(land, figure);
                    break;
                case LANE:
                    land.setTouch(field, other, LANED);
                    land.earn(who, -5 * figure);
                    break;
                case TOLD:
                    land.give(NOBODY, field);
                    break;
                case SELL:
                    land.give(NOBODY, field);
                    land.earn(who, priceIn(land) / 2);
                    break;
                default:
                    break;
            }
        }

        private void buyFor(Land land, int price) {
            land.earn(who, -price);
            land.earn(land.ownerOf(field), price);
            land.give(who, field);
        }

        /** A swap is a round whose last field is its other one. */
        private void goRound(Land land, int last) {
            int ofField = land.ownerOf(field);
            int ofOther = land.ownerOf(other);
            int ofLast = land.ownerOf(last);
            land.give(ofLast, field);
            land.give(ofOther, last);
            land.give(ofField, other);
        }

        int feeAsked() {
            int ofBuy = PLAIN_FEE + figure;
            int ofSwap = PLAIN_FEE * 3;
            switch (kind) {
                case BUY: return ofBuy;
                case SWAP: return ofSwap;
                case ROUND: return ofSwap + 1;
                case BAR: return 2 * ofBuy;
                case LANE: return PLAIN_FEE + 7;
                case TOLD: return PLAIN_FEE - 2;
                case SELL: return ofBuy - figure;
                default: return PLAIN_FEE;
            }
        }

        void throwFailure() {
            if (kind != TOLD && figure != 0) {
                throw new IllegalStateException("a move has failed");
            }
        }

        int failureNumber() {
            if (kind == SELL) {
                return 200 + feeAsked();
            }
            return kind == ROUND ? figure + 100 : figure;
        }
    }

    /** Both a move and a row are made once and used again, so that calls make nothing. */
    private static final class Shelf {
        int held = HOLDS_NOTHING;
        int sort = BYTES;
        int size = 0;
        final Move move = new Move();
        final int[] elements = new int[MOST_ELEMENTS];

        int refusalUnless(int wanted) {
            if (held == HOLDS_NOTHING) {
                return NOTHING_HELD;
            }
            return held == wanted ? 0 : OTHER_KIND;
        }

        int bytesRefusal() {
            int refusal = refusalUnless(HOLDS_ROW);
            return refusal == 0 && sort != BYTES ? OTHER_KIND : refusal;
        }

        void becomeRow(int newSort, int newSize) {
            held = HOLDS_ROW;
            sort = newSort;
            size = newSize;
            Arrays.fill(elements, 0);
        }

        boolean isPlace(int i) {
            return i >= 0 && i < size && i < elements.length;
        }

        boolean hasPlaces(int from, int n) {
            return from >= 0 && n >= 0 && from <= size && n <= size - from && size <= elements.length;
        }

        int at(int i) {
            return i >= 0 && i < size && i < elements.length ? elements[i] : 0;
        }

        boolean set(int i, int v) {
            if (!isPlace(i)) {
                return false;
            }
            elements[i] = sort == BYTES ? (byte) v : sort == SHORTS ? (short) v : v;
            return true;
        }
    }

    /** Searches ownings in the order in which the first of several counts. */
    private static final class Sharing {
        int worthFound = 0;
        private boolean musts = false;
        private final int[] tried = new int[MOST_FIELDS];
        private final int[] found = new int[MOST_FIELDS];
        private final int[] worthFrom = new int[MOST_FIELDS + 1];

        void search(Land land, boolean ownedStay) {
            musts = ownedStay;
            worthFound = -1;
            worthFrom[MOST_FIELDS] = 0;
            for (int f = MOST_FIELDS - 1; f >= 0; f--) {
                worthFrom[f] = worthFrom[f + 1] + land.greatestWorth(f);
            }
            tryFrom(this, land, 0, 0);
        }

        int ownerFound(int f) {
            return f >= 0 && f < found.length ? found[f] : NOBODY;
        }

        private static void tryFrom(Sharing s, Land land, int f, int worth) {
            if (f < 0 || f >= MOST_FIELDS || f >= land.fields) {
                s.keepIfBetter(worth);
                return;
            }
            // What can't be more is no better, as the first of several counts.
            if (worth + s.worthFrom[f] <= s.worthFound) {
                return;
            }
            for (int n = 0; n <= land.people; n++) {
                int p = n == 0 ? NOBODY : n - 1;
                if (s.canHave(land, f, p)) {
                    s.tried[f] = p;
                    tryFrom(s, land, f + 1, worth + land.worthTo(p, f));
                }
            }
        }

        private void keepIfBetter(int worth) {
            if (worth > worthFound) {
                worthFound = worth;
                System.arraycopy(tried, 0, found, 0, found.length);
            }
        }

        private boolean canHave(Land land, int f, int p) {
            int owner = land.ownerOf(f);
            if (musts && owner != NOBODY && owner != p) {
                return false;
            }
            for (int g = 0; g < f && g < tried.length; g++) {
                if (land.asOne(tried[g], p) && land.bars(g, f)) {
                    return false;
                }
            }
            return true;
        }
    }

    private static final class Numbering {
        private final int[] numbers = new int[MOST_FIELDS];

        int fewestFor(Land land) {
            for (int people = 0; people < MOST_FIELDS; people++) {
                if (numberFrom(this, land, 0, people)) {
                    return people;
                }
            }
            // As many as fields are always enough, so this fills in all numbers.
            numberFrom(this, land, 0, MOST_FIELDS);
            return MOST_FIELDS;
        }

        int numberOf(int f) {
            return f >= 0 && f < numbers.length ? numbers[f] : 0;
        }

        private static boolean numberFrom(Numbering s, Land land, int f, int people) {
            if (f < 0 || f >= MOST_FIELDS || f >= land.fields) {
                return true;
            }
            for (int p = 0; p < people; p++) {
                if (s.canHave(land, f, p)) {
                    s.numbers[f] = p;
                    if (numberFrom(s, land, f + 1, people)) {
                        return true;
                    }
                }
            }
            return false;
        }

        private boolean canHave(Land land, int f, int p) {
            for (int g = 0; g < f && g < numbers.length; g++) {
                if (numbers[g] == p && land.bars(g, f)) {
                    return false;
                }
            }
            return true;
        }
    }

    /** Goes out over ownings, each a code of two bits a field, in rings of one change more. */
    private static final class Changes {
        private static final int CODES = 4096;
        private static final int MOST_REACHED = 729;
        private static final int NOBODY_CODE = 3;

        private final int[] seenBits = new int[CODES / 32];
        private final int[] reached = new int[MOST_REACHED];
        private int reachedCount = 0;
        private final int[] bars = new int[MOST_FIELDS];

        int fewestBetween(Land from, Land to) {
            int start = codeOf(from);
            int end = codeOf(to);
            if (start == end) {
                return 0;
            }
            from.writeBars(bars);
            if (!isLawful(from, end)) {
                return NONE;
            }
            Arrays.fill(seenBits, 0);
            reachedCount = 0;
            markSeen(start);
            reach(start);
            int done = 0;
            for (int steps = 1; steps < MOST_REACHED && done < reachedCount; steps++) {
                int ringEnd = reachedCount;
                for (; done < ringEnd && done < reached.length; done++) {
                    widenFrom(from, reached[done], end);
                }
                if (isSeen(end)) {
                    return steps;
                }
            }
            return NONE;
        }

        /**
         * A field goes to nobody or to its last owner alone: if what lies between its first change
         * and its last becomes nobody, a chain stays lawful and gets no longer.
         */
        private void widenFrom(Land land, int code, int end) {
            for (int f = 0; f < land.fields; f++) {
                int field = 3 << 2 * f;
                look(land, code | field);
                look(land, code & ~field | end & field);
            }
        }

        /** Unlawful ones are marked as seen too, so that each is looked at once. */
        private void look(Land land, int code) {
            if (!isSeen(code)) {
                markSeen(code);
                if (isLawful(land, code)) {
                    reach(code);
                }
            }
        }

        private void reach(int code) {
            if (reachedCount >= 0 && reachedCount < reached.length) {
                reached[reachedCount] = code;
                reachedCount++;
            }
        }

        private boolean isLawful(Land land, int code) {
            for (int a = 0; a < bars.length; a++) {
                for (int b = a + 1; b < bars.length; b++) {
                    boolean barred = (bars[a] >> b & 1) == 1;
                    if (barred && land.asOne(code >> 2 * a & 3, code >> 2 * b & 3)) {
                        return false;
                    }
                }
            }
            return true;
        }

        private static int codeOf(Land land) {
            int code = 0;
            for (int f = 0; f < land.fields; f++) {
                int owner = land.ownerOf(f);
                code |= (owner == NOBODY ? NOBODY_CODE : owner) << 2 * f;
            }
            return code;
        }

        private boolean isSeen(int code) {
            return code >= 0 && code < CODES && (seenBits[code / 32] >> code % 32 & 1) == 1;
        }

        private void markSeen(int code) {
            if (code >= 0 && code < CODES) {
                seenBits[code / 32] |= 1 << code % 32;
            }
        }
    }

    /** Each player is told of as "mine" when it is to take, so one rule serves both. */
    private static final class Play {
        private static final int MOST_TURNS = 2 * MOST_FIELDS + 2;

        private final int[] bars = new int[MOST_FIELDS];

        int winningField(Land land) {
            land.writeBars(bars);
            return winningFrom(bars, land.fieldBits(0), land.fieldBits(1), land.fieldBits(NOBODY), 0);
        }

        int lead(Land land) {
            land.writeBars(bars);
            return leadFrom(bars, land.fieldBits(0), land.fieldBits(1), land.fieldBits(NOBODY), 0);
        }

        private static int winningFrom(int[] bars, int mine, int theirs, int free, int turn) {
            if (turn > MOST_TURNS) {
                return NONE;
            }
            for (int f = 0; f < bars.length; f++) {
                int bit = 1 << f;
                if ((free & bit) != 0 && (bars[f] & mine) == 0
                        && winningFrom(bars, theirs, mine | bit, free & ~bit, turn + 1) == NONE) {
                    return f;
                }
            }
            return NONE;
        }

        private static int leadFrom(int[] bars, int mine, int theirs, int free, int turn) {
            if (turn > MOST_TURNS) {
                return 0;
            }
            if (!canTake(bars, mine, free)) {
                boolean over = !canTake(bars, theirs, free);
                return over ? 0 : -leadFrom(bars, theirs, mine, free, turn + 1);
            }
            int most = -MOST_FIELDS;
            for (int f = 0; f < bars.length; f++) {
                int bit = 1 << f;
                if ((free & bit) != 0 && (bars[f] & mine) == 0) {
                    int theirLead = leadFrom(bars, theirs, mine | bit, free & ~bit, turn + 1);
                    most = Math.max(most, 1 - theirLead);
                }
            }
            return most;
        }

        private static boolean canTake(int[] bars, int mine, int free) {
            for (int f = 0; f < bars.length; f++) {
                if ((free >> f & 1) == 1 && (bars[f] & mine) == 0) {
                    return true;
                }
            }
            return false;
        }
    }

    private static final class DeedBook {
        private int deedCount = 0;
        private final int[] clashBits = new int[MOST_DEEDS];

        boolean write(Land land, Shelf row) {
            if (row.size % 3 != 0 || row.size / 3 > MOST_DEEDS) {
                return false;
            }
            deedCount = row.size / 3;
            for (int i = 0; i < deedCount; i++) {
                if (!isAsTold(land, row, 3 * i)) {
                    return false;
                }
            }
            for (int i = 0; i < deedCount && i < clashBits.length; i++) {
                clashBits[i] = clashesOf(land, row, i);
            }
            return true;
        }

        private static boolean isAsTold(Land land, Shelf row, int at) {
            int year = row.at(at + 2);
            return land.isPerson(row.at(at)) && land.isField(row.at(at + 1)) && year >= 0 && year <= 9;
        }

        private int clashesOf(Land land, Shelf row, int deed) {
            int bits = 0;
            for (int i = 0; i < deedCount; i++) {
                bits |= clash(land, row, 3 * deed, 3 * i) ? 1 << i : 0;
            }
            return bits;
        }

        private static boolean clash(Land land, Shelf row, int at, int otherAt) {
            if (row.at(at + 2) != row.at(otherAt + 2)) {
                return false;
            }
            boolean samePerson = row.at(at) == row.at(otherAt);
            boolean sameField = row.at(at + 1) == row.at(otherAt + 1);
            return samePerson ? land.bars(row.at(at + 1), row.at(otherAt + 1)) : sameField;
        }

        int fewestStruck() {
            int fewest = (1 << deedCount) - 1;
            for (int bits = 0; bits < 1 << deedCount; bits++) {
                if (Integer.bitCount(bits) < Integer.bitCount(fewest) && canStandWithout(bits)) {
                    fewest = bits;
                }
            }
            return fewest;
        }

        private boolean canStandWithout(int struck) {
            for (int i = 0; i < deedCount && i < clashBits.length; i++) {
                if ((struck >> i & 1) == 0 && (clashBits[i] & ~struck) != 0) {
                    return false;
                }
            }
            return true;
        }
    }
}
