import java.util.Arrays;

/** Names drawn from a hat; DOC.md tells, promise by promise, what each call answers. */
public final class HatNames {
    public static final int NONE = -1, UNKNOWN = -101, OUTSIDE = -102, STATE = -103, FULL = -104;

    private static final int ONE_WAY_ALREADY = -2;
    private static final int LEAST_CODE = 1, GREATEST_CODE = 126;
    private static final int MOST_DRAWS = 9999;
    private static final int MOST_HINTS = 20;
    private static final int MOST_TIMES = 60;
    private static final int GREATEST_HOUSE = 9;
    private static final int LAST_OF_PERSON = 8, LAST_OF_COUNT = 9;
    private static final int SURE = 5;
    private static final int COUNT_OF_SURE = 4;
    private static final long DIGEST_START = 1361L, DIGEST_FACTOR = 31L;

    private final Page page;
    private final Company current;
    private final Company kept;
    private final Outlook outlook;
    private final Trial trial;
    private boolean hasImage;
    private int companiesRead;
    private int hintsDone;

    public HatNames() {
        page = new Page();
        current = new Company();
        kept = new Company();
        outlook = new Outlook();
        trial = new Trial();
    }

    // ---- the company

    public int letter(int code) {
        if (code < LEAST_CODE || code > GREATEST_CODE) {
            return OUTSIDE;
        }
        if (page.length >= Page.MOST_LETTERS) {
            return FULL;
        }
        page.append(code);
        return page.length;
    }

    public int blank() {
        int had = page.length;
        page.length = 0;
        return had;
    }

    public int fault() {
        return page.firstWrong();
    }

    public int company() {
        if (!page.isCompany()) {
            return STATE;
        }
        current.read(page);
        page.length = 0;
        hasImage = false;
        companiesRead++;
        return current.size;
    }

    public int person(int person, int what) {
        if (!current.has(person)) {
            return UNKNOWN;
        }
        if (what < 0 || what > LAST_OF_PERSON) {
            return OUTSIDE;
        }
        if (what == SURE) {
            outlook.lookThrough(current);
        }
        return tellOfPerson(person, what);
    }

    public int as(int person, int kind) {
        if (!current.has(person)) {
            return UNKNOWN;
        }
        if (!isKind(kind)) {
            return OUTSIDE;
        }
        return current.isA(person, kind) ? person : NONE;
    }

    // ---- what is done

    public int take(int person, int name) {
        if (!current.has(person) || !current.has(name)) {
            return UNKNOWN;
        }
        if (current.hasDrawn(person) || current.drawerOf(name) != NONE || !current.may(person, name)) {
            return STATE;
        }
        if (current.draws >= MOST_DRAWS) {
            return FULL;
        }
        current.drawn[person] = name;
        current.draws++;
        outlook.look(current);
        return outlook.wayCount();
    }

    public int back(int person) {
        if (!current.has(person)) {
            return UNKNOWN;
        }
        if (!current.hasDrawn(person)) {
            return STATE;
        }
        int name = current.drawn[person];
        current.drawn[person] = NONE;
        return name;
    }

    public int exchange(int one, int other) {
        if (!current.has(one) || !current.has(other) || one == other) {
            return UNKNOWN;
        }
        if (!current.hasDrawn(one) || !current.hasDrawn(other)) {
            return STATE;
        }
        int ofOne = current.drawn[one];
        int ofOther = current.drawn[other];
        if (!current.may(one, ofOther) || !current.may(other, ofOne)) {
            return STATE;
        }
        current.drawn[one] = ofOther;
        current.drawn[other] = ofOne;
        return current.ringCount();
    }

    public int all() {
        if (current.size == 0) {
            return STATE;
        }
        int had = current.drawnCount();
        current.putAllBack();
        return had;
    }

    public int bar(int person, int name) {
        if (!current.has(person) || !current.has(name)) {
            return UNKNOWN;
        }
        current.barred[person] ^= 1 << name;
        return Integer.bitCount(current.mayBits(person));
    }

    public int change(int person, int kind, int house) {
        if (!current.has(person)) {
            return UNKNOWN;
        }
        if (!isKind(kind) || house < 0 || house > GREATEST_HOUSE) {
            return OUTSIDE;
        }
        int was = current.kinds[person];
        current.kinds[person] = kind;
        current.houses[person] = house;
        return was;
    }

    // ---- what would be

    public int ways(int what) {
        if (what < 0 || what > 1) {
            return OUTSIDE;
        }
        if (current.size == 0) {
            return STATE;
        }
        outlook.look(current);
        return what == 0 ? outlook.wayCount() : outlook.roundWays();
    }

    public int way(int way, int person) {
        if (!current.has(person)) {
            return UNKNOWN;
        }
        outlook.look(current);
        if (way < 0 || way >= outlook.wayCount()) {
            return UNKNOWN;
        }
        return outlook.nameInWay(way, person);
    }

    public int hint() {
        if (current.size == 0 || hintsDone >= MOST_HINTS) {
            return STATE;
        }
        hintsDone++;
        outlook.lookThrough(current);
        return outlook.wayCount() == 1 ? ONE_WAY_ALREADY : outlook.barForOneWay();
    }

    public int likely() {
        if (current.size == 0) {
            return STATE;
        }
        outlook.look(current);
        return outlook.chance();
    }

    public int rings(int what) {
        if (what < 0 || what > 1) {
            return OUTSIDE;
        }
        if (current.size == 0) {
            return STATE;
        }
        return what == 0 ? current.ringCount() : current.longestRing();
    }

    // ---- what is seen

    public int see(int person, int name, boolean may) {
        if (!current.has(person) || !current.has(name)) {
            return UNKNOWN;
        }
        if (current.seenCount >= Company.MOST_SEEN) {
            return FULL;
        }
        current.addSeen(person, name, may);
        return current.seenCount;
    }

    public int forget() {
        int was = current.seenCount;
        current.seenCount = 0;
        return was;
    }

    public int drawn(int times, int seed, int what) {
        if (times < 1 || times > MOST_TIMES || seed < 0 || what < 0 || what > 2) {
            return OUTSIDE;
        }
        if (current.size == 0) {
            return STATE;
        }
        outlook.look(current);
        trial.start(seed);
        for (int time = 0; time < times; time++) {
            trial.drawOnce(current, outlook);
        }
        if (what == 0) {
            return trial.completed;
        }
        return what == 1 ? trial.names : trial.seed;
    }

    // ---- what is told of all

    public int image() {
        if (current.size == 0) {
            return STATE;
        }
        kept.copyFrom(current);
        hasImage = true;
        return kept.draws;
    }

    public int restore() {
        if (!hasImage) {
            return STATE;
        }
        current.copyFrom(kept);
        return current.draws;
    }

    public int count(int what) {
        if (what < 0 || what > LAST_OF_COUNT) {
            return OUTSIDE;
        }
        if (what == COUNT_OF_SURE) {
            outlook.lookThrough(current);
        }
        return tellOfAll(what);
    }

    public long digest() {
        outlook.lookThrough(current);
        long h = DIGEST_START;
        for (int person = 0; person < current.size; person++) {
            for (int what = 0; what <= LAST_OF_PERSON; what++) {
                h = mixed(h, tellOfPerson(person, what));
            }
        }
        if (current.size > 0) {
            h = mixed(h, outlook.wayCount());
            h = mixed(h, outlook.roundWays());
            h = mixed(h, outlook.chance());
            h = mixed(h, current.ringCount());
            h = mixed(h, current.longestRing());
        }
        for (int place = 0; place < page.length; place++) {
            h = mixed(h, page.letters[place]);
        }
        for (int what = 0; what <= LAST_OF_COUNT; what++) {
            h = mixed(h, tellOfAll(what));
        }
        return h;
    }

    private static long mixed(long h, int number) {
        return DIGEST_FACTOR * h + number;
    }

    private static boolean isKind(int kind) {
        return kind >= 0 && kind < Company.KINDS;
    }

    /** For SURE the outlook must have been looked through; digest() does so once for all. */
    private int tellOfPerson(int person, int what) {
        switch (what) {
            case 0:
                return current.kinds[person];
            case 1:
                return current.houses[person];
            case 2:
                return current.drawn[person];
            case 3:
                return current.mayBits(person);
            case 4:
                return current.drawerOf(person);
            case SURE:
                return sureName(person);
            case 6:
                return current.sorts(person);
            case 7:
                return current.nameToAsk(person);
            default:
                return Integer.bitCount(current.ringOf(person));
        }
    }

    /** For COUNT_OF_SURE the outlook must have been looked through. */
    private int tellOfAll(int what) {
        switch (what) {
            case 0:
                return current.size;
            case 1:
                return current.drawnCount();
            case 2:
                return current.barredCount();
            case 3:
                return current.drawnAmissCount();
            case COUNT_OF_SURE:
                return sureCount();
            case 5:
                return current.draws;
            case 6:
                return current.seenCount;
            case 7:
                return page.length;
            case 8:
                return companiesRead;
            default:
                return hintsDone;
        }
    }

    /** A drawn name is sure even where the others have no way left. */
    private int sureName(int person) {
        return current.hasDrawn(person) ? current.drawn[person] : outlook.nameInAllWays(person);
    }

    private int sureCount() {
        int sure = 0;
        for (int person = 0; person < current.size; person++) {
            if (sureName(person) != NONE) {
                sure++;
            }
        }
        return sure;
    }

    /** The letters from which a company is read. */
    private static final class Page {
        static final int MOST_LETTERS = 24;

        private static final String KIND_LETTERS = "peksr";
        /** A person with the comma behind him: kind, house, comma. */
        private static final int STRIDE = 3;
        private static final int LONGEST_COMPANY = Company.MOST_PERSONS * STRIDE - 1;
        private static final int SHORTEST_COMPANY = 2 * STRIDE - 1;

        final int[] letters = new int[MOST_LETTERS];
        int length;

        void append(int code) {
            if (length < MOST_LETTERS) {
                letters[length] = code;
                length++;
            }
        }

        int firstWrong() {
            for (int place = 0; place < length; place++) {
                if (!fits(place)) {
                    return place;
                }
            }
            return length;
        }

        boolean isCompany() {
            return length >= SHORTEST_COMPANY && length % STRIDE == STRIDE - 1 && firstWrong() == length;
        }

        int persons() {
            return (length + 1) / STRIDE;
        }

        int kindOf(int person) {
            return KIND_LETTERS.indexOf((char) letters[person * STRIDE]);
        }

        int houseOf(int person) {
            return letters[person * STRIDE + 1] - '0';
        }

        private boolean fits(int place) {
            int code = letters[place];
            if (place >= LONGEST_COMPANY) {
                return false;
            }
            if (place % STRIDE == 0) {
                return KIND_LETTERS.indexOf((char) code) >= 0;
            }
            if (place % STRIDE == 1) {
                return code >= '0' && code <= '9';
            }
            return code == ',';
        }
    }

    /** The persons with all that an image keeps of them; without a company the size is 0. */
    private static final class Company {
        static final int MOST_PERSONS = 7;
        static final int MOST_SEEN = 6;
        static final int KINDS = 5;

        private static final int PERSON = 0, EASY = 1, KIN = 2, SHY = 3, PROUD = 4;

        final int[] kinds = new int[MOST_PERSONS];
        final int[] houses = new int[MOST_PERSONS];
        final int[] drawn = new int[MOST_PERSONS];
        final int[] barred = new int[MOST_PERSONS];
        int size;
        int draws;
        int seenCount;
        private final int[] seenPersons = new int[MOST_SEEN];
        private final int[] seenNames = new int[MOST_SEEN];
        private final boolean[] seenMay = new boolean[MOST_SEEN];

        void read(Page page) {
            size = Math.min(page.persons(), MOST_PERSONS);
            for (int person = 0; person < size; person++) {
                kinds[person] = page.kindOf(person);
                houses[person] = page.houseOf(person);
            }
            Arrays.fill(barred, 0);
            putAllBack();
            seenCount = 0;
            draws = 0;
        }

        void copyFrom(Company other) {
            size = other.size;
            draws = other.draws;
            seenCount = other.seenCount;
            System.arraycopy(other.kinds, 0, kinds, 0, MOST_PERSONS);
            System.arraycopy(other.houses, 0, houses, 0, MOST_PERSONS);
            System.arraycopy(other.drawn, 0, drawn, 0, MOST_PERSONS);
            System.arraycopy(other.barred, 0, barred, 0, MOST_PERSONS);
            for (int seen = 0; seen < MOST_SEEN; seen++) {
                seenPersons[seen] = other.seenPersons[seen];
                seenNames[seen] = other.seenNames[seen];
                seenMay[seen] = other.seenMay[seen];
            }
        }

        boolean has(int number) {
            return number >= 0 && number < size;
        }

        boolean isA(int person, int kind) {
            int own = kinds[person];
            return kind == PERSON || kind == own || kind == KIN && own == PROUD;
        }

        boolean may(int person, int name) {
            return kindMay(kinds[person], person, name) && (barred[person] >> name & 1) == 0;
        }

        int mayBits(int person) {
            int bits = 0;
            for (int name = 0; name < size; name++) {
                if (may(person, name)) {
                    bits |= 1 << name;
                }
            }
            return bits;
        }

        boolean hasDrawn(int person) {
            return drawn[person] != NONE;
        }

        int drawerOf(int name) {
            for (int person = 0; person < size; person++) {
                if (drawn[person] == name) {
                    return person;
                }
            }
            return NONE;
        }

        int hatBits() {
            int bits = (1 << size) - 1;
            for (int person = 0; person < size; person++) {
                if (hasDrawn(person)) {
                    bits &= ~(1 << drawn[person]);
                }
            }
            return bits;
        }

        void putAllBack() {
            Arrays.fill(drawn, NONE);
        }

        int drawnCount() {
            int have = 0;
            for (int person = 0; person < size; person++) {
                if (hasDrawn(person)) {
                    have++;
                }
            }
            return have;
        }

        int drawnAmissCount() {
            int amiss = 0;
            for (int person = 0; person < size; person++) {
                if (hasDrawn(person) && !may(person, drawn[person])) {
                    amiss++;
                }
            }
            return amiss;
        }

        int barredCount() {
            int bars = 0;
            for (int person = 0; person < size; person++) {
                bars += Integer.bitCount(barred[person]);
            }
            return bars;
        }

        /** The persons of his ring as bits; 0, if he is in none. */
        int ringOf(int person) {
            int ring = 0;
            int at = person;
            for (int steps = 0; steps < size && at != NONE; steps++) {
                ring |= 1 << at;
                at = drawn[at];
                if (at == person) {
                    return ring;
                }
            }
            return 0;
        }

        int ringCount() {
            int rings = 0;
            int counted = 0;
            for (int person = 0; person < size; person++) {
                int ring = ringOf(person);
                if (ring != 0 && (ring & counted) == 0) {
                    rings++;
                    counted |= ring;
                }
            }
            return rings;
        }

        int longestRing() {
            int longest = 0;
            for (int person = 0; person < size; person++) {
                longest = Math.max(longest, Integer.bitCount(ringOf(person)));
            }
            return longest;
        }

        void addSeen(int person, int name, boolean may) {
            if (seenCount < MOST_SEEN) {
                seenPersons[seenCount] = person;
                seenNames[seenCount] = name;
                seenMay[seenCount] = may;
                seenCount++;
            }
        }

        int sorts(int person) {
            int bits = 0;
            for (int kind = 0; kind < KINDS; kind++) {
                if (agreesWithSeen(person, kind)) {
                    bits |= 1 << kind;
                }
            }
            return bits;
        }

        int nameToAsk(int person) {
            int sorts = sorts(person);
            if (sorts == 0) {
                return NONE;
            }
            int best = NONE;
            int fewest = KINDS + 1;
            for (int name = 0; name < size; name++) {
                int worst = leftAtWorst(sorts, person, name);
                if (worst < fewest) {
                    fewest = worst;
                    best = name;
                }
            }
            return best;
        }

        private boolean agreesWithSeen(int person, int kind) {
            for (int seen = 0; seen < seenCount; seen++) {
                if (seenPersons[seen] == person
                        && kindMay(kind, person, seenNames[seen]) != seenMay[seen]) {
                    return false;
                }
            }
            return true;
        }

        private int leftAtWorst(int sorts, int person, int name) {
            int yes = 0;
            for (int kind = 0; kind < KINDS; kind++) {
                if ((sorts >> kind & 1) == 1 && kindMay(kind, person, name)) {
                    yes++;
                }
            }
            return Math.max(yes, Integer.bitCount(sorts) - yes);
        }

        /** What the kind alone allows, barred or not; his own name is of his own house, too. */
        private boolean kindMay(int kind, int person, int name) {
            switch (kind) {
                case EASY:
                    return true;
                case KIN:
                    return houses[person] != houses[name];
                case SHY:
                    return Math.abs(person - name) > 1;
                case PROUD:
                    return Math.abs(houses[person] - houses[name]) > 1;
                default:
                    return person != name;
            }
        }
    }

    /**
     * How it can go on. One who has drawn is held as one who can draw that name alone, so that
     * all persons draw in turn, and the names left tell whose turn it is: tables over the sets
     * of names left (as bits) stand for the ways, which are far more.
     */
    private static final class Outlook {
        private static final int SETS = 1 << Company.MOST_PERSONS;
        private static final int CERTAIN = 1000000;

        /** The names that each person can have in the end. */
        final int[] choices = new int[Company.MOST_PERSONS];
        private final int[] onward = new int[SETS];
        private final int[] reached = new int[SETS];
        private final int[] chances = new int[SETS];
        private final int[] through = new int[Company.MOST_PERSONS * Company.MOST_PERSONS];
        private final int[] closings = new int[SETS * Company.MOST_PERSONS];
        private int size;
        private int everyName;

        void look(Company company) {
            size = company.size;
            everyName = (1 << size) - 1;
            int hat = company.hatBits();
            for (int person = 0; person < size; person++) {
                choices[person] = company.hasDrawn(person)
                        ? 1 << company.drawn[person]
                        : hat & company.mayBits(person);
            }
            countOnward();
        }

        /** Looks, and counts for each person and name the ways in which he has it. */
        void lookThrough(Company company) {
            look(company);
            countReached();
            countThrough();
        }

        int wayCount() {
            return onward[everyName];
        }

        int nameInWay(int way, int person) {
            int left = everyName;
            int ahead = way;
            for (int drawer = 0; drawer <= person && drawer < size; drawer++) {
                int name = 0;
                while (name < size && ahead >= waysWith(drawer, name, left)) {
                    ahead -= waysWith(drawer, name, left);
                    name++;
                }
                if (name >= size) {
                    return NONE;
                }
                if (drawer == person) {
                    return name;
                }
                left &= ~(1 << name);
            }
            return NONE;
        }

        int nameInAllWays(int person) {
            for (int name = 0; name < size; name++) {
                if (wayCount() > 0 && through[cell(person, name)] == wayCount()) {
                    return name;
                }
            }
            return NONE;
        }

        /** To bar what one has drawn would leave no way at all, so it is never told. */
        int barForOneWay() {
            for (int person = 0; person < size; person++) {
                for (int name = 0; name < size; name++) {
                    if (isIn(choices[person], name) && wayCount() - through[cell(person, name)] == 1) {
                        return 10 * person + name;
                    }
                }
            }
            return NONE;
        }

        int chance() {
            chances[0] = CERTAIN;
            for (int left = 1; left <= everyName; left++) {
                int open = choices[turn(left)] & left;
                int sum = 0;
                for (int name = 0; name < size; name++) {
                    if (isIn(open, name)) {
                        sum += chances[left & ~(1 << name)];
                    }
                }
                chances[left] = open == 0 ? 0 : sum / Integer.bitCount(open);
            }
            return chances[everyName];
        }

        /**
         * In how many ways one goes from person 0 through all the others and back to him; as he
         * is among those passed from the start, only sets with him (the odd ones) are filled.
         */
        int roundWays() {
            for (int passed = everyName; passed >= 1; passed -= 2) {
                for (int last = 0; last < size; last++) {
                    if (isIn(passed, last)) {
                        closings[cell(passed, last)] = closingWays(passed, last);
                    }
                }
            }
            return closings[cell(1, 0)];
        }

        private int closingWays(int passed, int last) {
            if (passed == everyName) {
                return choices[last] & 1;
            }
            int sum = 0;
            for (int next = 0; next < size; next++) {
                if (isIn(choices[last] & ~passed, next)) {
                    sum += closings[cell(passed | 1 << next, next)];
                }
            }
            return sum;
        }

        private void countOnward() {
            onward[0] = 1;
            for (int left = 1; left <= everyName; left++) {
                int drawer = turn(left);
                int sum = 0;
                for (int name = 0; name < size; name++) {
                    sum += waysWith(drawer, name, left);
                }
                onward[left] = sum;
            }
        }

        private void countReached() {
            Arrays.fill(reached, 0);
            reached[everyName] = 1;
            for (int left = everyName; left >= 1; left--) {
                int open = choices[turn(left)] & left;
                for (int name = 0; name < size; name++) {
                    if (isIn(open, name)) {
                        reached[left & ~(1 << name)] += reached[left];
                    }
                }
            }
        }

        private void countThrough() {
            Arrays.fill(through, 0);
            for (int left = 1; left <= everyName; left++) {
                int drawer = turn(left);
                for (int name = 0; name < size; name++) {
                    through[cell(drawer, name)] += reached[left] * waysWith(drawer, name, left);
                }
            }
        }

        /** In how many ways it goes on, if he whose turn it is draws this name of those left. */
        private int waysWith(int drawer, int name, int left) {
            return isIn(choices[drawer] & left, name) ? onward[left & ~(1 << name)] : 0;
        }

        /** Who draws when these names, one at least, are left. */
        private int turn(int left) {
            return size - Integer.bitCount(left);
        }

        private static boolean isIn(int set, int number) {
            return (set >> number & 1) == 1;
        }

        private static int cell(int row, int column) {
            return row * Company.MOST_PERSONS + column;
        }
    }

    /** Drawing by a seed, as it would be: nothing of the company is changed by it. */
    private static final class Trial {
        private static final int FACTOR = 1103515245, STEP = 12345, LOW_31_BITS = 0x7fffffff;
        private static final int DIVISOR = 65536;

        int seed;
        int completed;
        int names;

        void start(int firstSeed) {
            seed = firstSeed;
            completed = 0;
            names = 0;
        }

        void drawOnce(Company company, Outlook outlook) {
            int left = company.hatBits();
            for (int person = 0; person < company.size; person++) {
                if (!company.hasDrawn(person)) {
                    int open = outlook.choices[person] & left;
                    if (open == 0) {
                        return;
                    }
                    left &= ~(1 << pick(open));
                    names++;
                }
            }
            completed++;
        }

        /** The name, of those open (one at least), that the next draw tells. */
        private int pick(int open) {
            int ahead = nextDraw(Integer.bitCount(open));
            int name = 0;
            while (name < Company.MOST_PERSONS - 1 && (ahead > 0 || (open >> name & 1) == 0)) {
                ahead -= open >> name & 1;
                name++;
            }
            return name;
        }

        private int nextDraw(int bound) {
            seed = FACTOR * seed + STEP & LOW_31_BITS;
            return bound > 0 ? seed / DIVISOR % bound : 0;
        }
    }
}
