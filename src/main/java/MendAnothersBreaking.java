/**
 * A lane of people and things that wear and break, where only another's breaking may one mend.
 * The words in capitals, and every answer, are those of the document (DOC.md).
 */
public final class MendAnothersBreaking {
    private static final int MOST_PEOPLE = 6;
    private static final int MOST_THINGS = 9;
    private static final int MOST_DIGIT = 9;
    private static final int MOST_DAY = 999;
    private static final int MOST_MENDED = 999;
    private static final int MOST_DAYS = 60;
    private static final int MOST_AHEAD = 99;
    private static final int MOST_LETTERS = 96;
    private static final int MOST_SIGN = 255;
    private static final int MOST_ROW = 16;
    private static final int MOST_ROW_NUMBER = 99;
    private static final int MOST_LANES = 20;
    private static final int DAYS_OF_LOTS = 10;
    private static final int MOST_STORM_DAYS = 7;
    private static final int PAIRS = 4;
    private static final int LEAST_ODDS = 2;
    private static final int MOST_ODDS = 20;

    private static final int THING = 0;
    private static final int CUP = 1;
    private static final int GATE = 2;
    private static final int WHEEL = 3;
    private static final int CLOCK = 4;
    private static final int TOOL = 5;
    private static final int KINDS = 6;
    private static final int ABLE_OWNER = 5;

    private static final int WHOLE = -9;
    private static final int BY_NOBODY = -8;
    private static final int NONE = -9;

    private static final int ABSENT = -1;
    private static final int OTHER = -2;
    private static final int STATE = -3;
    private static final int BELOW = -4;
    private static final int ROOM = -6;
    private static final int MOST_REFUSAL = 6;
    private static final int REFUSAL_OF_DUE = 1000000000;
    private static final long REFUSAL_OF_LONG = 4000000000000000000L;

    private static final int FORM_FAULT = -1000;
    private static final int SENSE_FAULT = -2000;

    private final State now = new State();
    /** Where answers are thought out: made once, as what a run makes is counted. */
    private final State mind = new State();
    private final State kept = new State();
    private boolean hasKept = false;
    private final Letters told = new Letters();
    private final int[] rowNumbers = new int[MOST_ROW];
    private int rowSize = 0;
    private final int[] refusals = new int[MOST_REFUSAL + 1];
    private final Pairing pairing = new Pairing();
    private final int[] firstHas = new int[PAIRS];
    private final int[] otherHas = new int[PAIRS];

    public MendAnothersBreaking() {
    }

    // ---- what is told and done ----

    public int letter(int c) {
        if (c < 0) {
            return refuse(BELOW);
        }
        if (c > MOST_SIGN || !told.hasRoom()) {
            return refuse(ROOM);
        }
        return told.take(c);
    }

    public int lane() {
        mind.become(now);
        int fault = told.formFault();
        int answer = fault == NONE ? told.tellTo(mind) : FORM_FAULT - fault;
        if (answer > 0) {
            now.become(mind);
        }
        told.forget();
        return answer;
    }

    public int person(int person, int what) {
        if (!now.isPerson(person)) {
            return refuse(ABSENT);
        }
        switch (what) {
            case 0: return now.skills[person];
            case 1: return now.mended[person];
            case 2: return now.ownedBy(person);
            case 3: return now.brokenBy(person);
            default: return refuse(OTHER);
        }
    }

    public int thing(int thing, int what) {
        if (!now.isThing(thing)) {
            return refuse(ABSENT);
        }
        switch (what) {
            case 0: return now.kinds[thing];
            case 1: return now.figures[thing];
            case 2: return now.owners[thing];
            case 3: return now.wear[thing];
            case 4: return now.breakers[thing];
            case 5: return now.hardOf(thing);
            case 6: return now.moreWearOf(thing, now.day + 1);
            default: return refuse(OTHER);
        }
    }

    public int breaks(int person, int thing) {
        if (!now.isPerson(person) || !now.isThing(thing)) {
            return refuse(ABSENT);
        }
        if (!now.isWhole(thing)) {
            return refuse(STATE);
        }
        now.breakers[thing] = person;
        return now.wholeCount();
    }

    public int rusts(int thing) {
        if (!now.isThing(thing)) {
            return refuse(ABSENT);
        }
        if (!now.isWhole(thing)) {
            return refuse(STATE);
        }
        now.breakers[thing] = BY_NOBODY;
        return now.wholeCount();
    }

    public int says(int person, int thing) {
        if (!now.isPerson(person) || !now.isThing(thing)) {
            return refuse(ABSENT);
        }
        if (!now.isMourned(thing)) {
            return refuse(STATE);
        }
        now.breakers[thing] = person;
        return now.mendersNow(thing);
    }

    public int mends(int person, int thing) {
        if (!now.isPerson(person) || !now.isThing(thing)) {
            return refuse(ABSENT);
        }
        if (!now.mayMend(person, thing)) {
            return refuse(STATE);
        }
        now.mend(person, thing);
        return now.wholeCount();
    }

    public int wears(int thing, int v) {
        if (!now.isThing(thing)) {
            return refuse(ABSENT);
        }
        int wrong = outside(v, 0, MOST_DIGIT);
        if (wrong != 0) {
            return refuse(wrong);
        }
        int before = now.wear[thing];
        now.wear[thing] = v;
        return before;
    }

    public int skill(int person, int v) {
        if (!now.isPerson(person)) {
            return refuse(ABSENT);
        }
        int wrong = outside(v, 0, MOST_DIGIT);
        if (wrong != 0) {
            return refuse(wrong);
        }
        int before = now.skills[person];
        now.skills[person] = v;
        return before;
    }

    public int turn(int thing, int kind, int figure) {
        if (!now.isThing(thing)) {
            return refuse(ABSENT);
        }
        if (kind < 0 || kind >= KINDS) {
            return refuse(OTHER);
        }
        int wrong = outside(figure, 0, MOST_DIGIT);
        if (wrong != 0) {
            return refuse(wrong);
        }
        int before = 10 * now.kinds[thing] + now.figures[thing];
        now.kinds[thing] = kind;
        now.figures[thing] = figure;
        return before;
    }

    public int days(int n) {
        int wrong = outside(n, 1, MOST_DAYS);
        if (wrong != 0) {
            return refuse(wrong);
        }
        if (now.day + n > MOST_DAY) {
            return refuse(ROOM);
        }
        now.pass(n, 1, NONE);
        return now.wholeCount();
    }

    // ---- in mind ----

    public int wholeThen(int n) {
        int wrong = outside(n, 0, MOST_AHEAD);
        if (wrong != 0) {
            return refuse(wrong);
        }
        mind.become(now);
        mind.pass(n, 1, NONE);
        return mind.wholeBits();
    }

    public int brokenThen(int thing, int n) {
        if (!now.isThing(thing)) {
            return refuse(ABSENT);
        }
        int wrong = outside(n, 0, MOST_AHEAD);
        if (wrong != 0) {
            return refuse(wrong);
        }
        mind.become(now);
        mind.pass(n, 1, NONE);
        return mind.breakers[thing];
    }

    public int mendedThen(int n) {
        int wrong = outside(n, 0, MOST_AHEAD);
        if (wrong != 0) {
            return refuse(wrong);
        }
        mind.become(now);
        mind.pass(n, 1, NONE);
        return mind.mendedByAll() - now.mendedByAll();
    }

    public int again(int thing, int what) {
        if (!now.isThing(thing)) {
            return refuse(ABSENT);
        }
        if (what < 0 || what > 1) {
            return refuse(OTHER);
        }
        mind.become(now);
        return daysUntil(thing, what == 0);
    }

    /** Behind how many DAYS from mind a THING is first WHOLE, or first not. */
    private int daysUntil(int thing, boolean whole) {
        for (int ahead = 0; ahead <= MOST_AHEAD; ahead++) {
            if (mind.isWhole(thing) == whole) {
                return ahead;
            }
            mind.pass(1, 1, NONE);
        }
        return NONE;
    }

    public int mourned(int what) {
        if (what < 0 || what > 1) {
            return refuse(OTHER);
        }
        return what == 0 ? now.mournedBits() : daysUntilAllWhole();
    }

    private int daysUntilAllWhole() {
        mind.become(now);
        for (int ahead = 0; ahead <= MOST_AHEAD; ahead++) {
            if (mind.wholeCount() == mind.things) {
                return ahead;
            }
            mind.pass(1, 1, NONE);
        }
        return NONE;
    }

    public int first(int what) {
        if (what < 0 || what > 1) {
            return refuse(OTHER);
        }
        mind.become(now);
        for (int ahead = 1; ahead <= MOST_AHEAD; ahead++) {
            mind.pass(1, 1, NONE);
            int thing = firstLost();
            if (thing != NONE) {
                return what == 0 ? thing : ahead;
            }
        }
        return NONE;
    }

    /** The least THING that is WHOLE now and not in mind. */
    private int firstLost() {
        for (int thing = 0; thing < now.things; thing++) {
            if (now.isWhole(thing) && !mind.isWhole(thing)) {
                return thing;
            }
        }
        return NONE;
    }

    // ---- who may mend, who had better ----

    public int menders(int thing) {
        if (!now.isThing(thing)) {
            return refuse(ABSENT);
        }
        return now.ableBits(thing);
    }

    public int together(int thing) {
        if (thing != -1 && !now.isThing(thing)) {
            return refuse(ABSENT);
        }
        pairing.fill(now);
        return thing == -1 ? pairing.most() : pairing.menderOf(now, thing);
    }

    public int lost() {
        int bits = 0;
        for (int thing = 0; thing < now.things; thing++) {
            if (!now.isWhole(thing) && now.mendersNow(thing) == 0) {
                bits |= 1 << thing;
            }
        }
        return bits;
    }

    public int breaker(int thing) {
        if (!now.isThing(thing)) {
            return refuse(ABSENT);
        }
        if (!now.isWhole(thing)) {
            return refuse(STATE);
        }
        int best = NONE;
        int fewest = MOST_AHEAD + 1;
        for (int person = 0; person < now.people; person++) {
            mind.become(now);
            mind.breakers[thing] = person;
            int until = daysUntil(thing, true);
            if (until != NONE && until < fewest) {
                fewest = until;
                best = person;
            }
        }
        return best;
    }

    public int bestSays(int n) {
        int wrong = outside(n, 0, MOST_AHEAD);
        if (wrong != 0) {
            return refuse(wrong);
        }
        int best = NONE;
        int most = wholeBehind(n);
        for (int thing = 0; thing < now.things; thing++) {
            for (int person = 0; person < now.people && now.isMourned(thing); person++) {
                mind.become(now);
                mind.breakers[thing] = person;
                mind.pass(n, 1, NONE);
                if (mind.wholeCount() > most) {
                    most = mind.wholeCount();
                    best = 10 * thing + person;
                }
            }
        }
        return best;
    }

    private int wholeBehind(int n) {
        mind.become(now);
        mind.pass(n, 1, NONE);
        return mind.wholeCount();
    }

    public int confessions() {
        int best = NONE;
        int fewest = MOST_PEOPLE + 1;
        for (int some = 0; some < 1 << now.people; some++) {
            int size = Integer.bitCount(some);
            if (size < fewest && leaveNothing(some)) {
                fewest = size;
                best = some;
            }
        }
        return best;
    }

    /** Whether some of PEOPLE (bits) could say it of each MOURNED THING so that it may be mended. */
    private boolean leaveNothing(int some) {
        for (int thing = 0; thing < now.things; thing++) {
            if (now.isMourned(thing) && !oneCouldSay(some, thing)) {
                return false;
            }
        }
        return true;
    }

    private boolean oneCouldSay(int some, int thing) {
        int able = now.ableBits(thing);
        for (int person = 0; person < now.people; person++) {
            int bit = 1 << person;
            if ((some & bit) != 0 && (able & ~bit) != 0) {
                return true;
            }
        }
        return false;
    }

    public int learns(int n) {
        int wrong = outside(n, 0, MOST_AHEAD);
        if (wrong != 0) {
            return refuse(wrong);
        }
        int best = NONE;
        int most = wholeBehind(n);
        for (int person = 0; person < now.people; person++) {
            mind.become(now);
            mind.skills[person] = MOST_DIGIT;
            mind.pass(n, 1, NONE);
            if (mind.wholeCount() > most) {
                most = mind.wholeCount();
                best = person;
            }
        }
        return best;
    }

    public int missed(int n) {
        int wrong = outside(n, 0, MOST_AHEAD);
        if (wrong != 0) {
            return refuse(wrong);
        }
        int best = NONE;
        int fewest = MOST_THINGS + 1;
        for (int person = 0; person < now.people; person++) {
            mind.become(now);
            mind.pass(n, 1, person);
            if (mind.wholeCount() < fewest) {
                fewest = mind.wholeCount();
                best = person;
            }
        }
        return best;
    }

    // ---- neighbours ----

    public int due(int person) {
        if (!now.isPerson(person)) {
            return REFUSAL_OF_DUE - refuse(ABSENT);
        }
        int balance = 0;
        for (int thing = 0; thing < now.things; thing++) {
            if (now.isByAnother(thing)) {
                if (now.breakers[thing] == person) {
                    balance++;
                } else if (now.owners[thing] == person) {
                    balance--;
                }
            }
        }
        return balance;
    }

    public int ring(int person, int what) {
        if (!now.isPerson(person)) {
            return refuse(ABSENT);
        }
        if (what < 0 || what > 1) {
            return refuse(OTHER);
        }
        int seen = 0;
        int at = person;
        for (int steps = 0; steps < MOST_PEOPLE && at != NONE && (seen & (1 << at)) == 0; steps++) {
            seen |= 1 << at;
            at = now.breakerOfLeast(at);
        }
        if (what == 0) {
            return Integer.bitCount(seen);
        }
        return at == NONE ? 0 : 1;
    }

    public int arranged(int what) {
        switch (what) {
            case 0: return arrangements();
            case 1: return guilty();
            case 2: return richest();
            default: return refuse(OTHER);
        }
    }

    private int arrangements() {
        int twos = 0;
        for (int one = 0; one < now.people; one++) {
            for (int other = one + 1; other < now.people; other++) {
                if (now.hasBrokenOf(one, other) && now.hasBrokenOf(other, one)) {
                    twos++;
                }
            }
        }
        return twos;
    }

    private int guilty() {
        int best = NONE;
        int most = 0;
        for (int person = 0; person < now.people; person++) {
            if (now.brokenBy(person) > most) {
                most = now.brokenBy(person);
                best = person;
            }
        }
        return best;
    }

    private int richest() {
        int best = NONE;
        int most = -1;
        for (int person = 0; person < now.people; person++) {
            if (now.riches(person) > most) {
                most = now.riches(person);
                best = person;
            }
        }
        return best;
    }

    public int two(int a, int b, int n) {
        if (!now.isPerson(a) || !now.isPerson(b) || a == b) {
            return refuse(ABSENT);
        }
        int wrong = outside(n, 0, MOST_AHEAD);
        if (wrong != 0) {
            return refuse(wrong);
        }
        for (int pair = 0; pair < PAIRS; pair++) {
            thinkOut(a, b, n, pair);
        }
        for (int pair = 0; pair < PAIRS; pair++) {
            if (firstHas[pair] >= firstHas[pair ^ 2] && otherHas[pair] >= otherHas[pair ^ 1]) {
                return 10 * (pair / 2) + pair % 2;
            }
        }
        return NONE;
    }

    /** Writes down what each of two has WHOLE by a pair (bit 1 the first's choice, bit 0 the other's). */
    private void thinkOut(int a, int b, int n, int pair) {
        mind.become(now);
        if ((pair & 2) != 0) {
            mind.breakLeastOf(b, a);
        }
        if ((pair & 1) != 0) {
            mind.breakLeastOf(a, b);
        }
        mind.pass(n, 1, NONE);
        firstHas[pair] = mind.wholeOf(a);
        otherHas[pair] = mind.wholeOf(b);
    }

    // ---- odds, fractions ----

    public long storm(int thing, int n, int t, int part) {
        if (!now.isThing(thing)) {
            return REFUSAL_OF_LONG - refuse(ABSENT);
        }
        if (n < 0 || t < LEAST_ODDS) {
            return REFUSAL_OF_LONG - refuse(BELOW);
        }
        if (n > MOST_STORM_DAYS || t > MOST_ODDS) {
            return REFUSAL_OF_LONG - refuse(ROOM);
        }
        if (part < 0 || part > 1) {
            return REFUSAL_OF_LONG - refuse(OTHER);
        }
        long above = 0;
        for (int storms = 0; storms < 1 << n; storms++) {
            long weight = weather(n, t, storms);
            above += mind.isWhole(thing) ? weight : 0;
        }
        long below = 1;
        for (int i = 0; i < n; i++) {
            below *= t;
        }
        return leastTerms(above, below, part);
    }

    /** Lets n DAYS go by in mind, those in storms (bits) with one: its share of t to the power n. */
    private long weather(int n, int t, int storms) {
        mind.become(now);
        long weight = 1;
        for (int i = 0; i < n; i++) {
            boolean isStorm = (storms >> i & 1) != 0;
            mind.pass(1, isStorm ? 2 : 1, NONE);
            weight *= isStorm ? 1 : t - 1;
        }
        return weight;
    }

    public long mean(int part) {
        if (part < 0 || part > 1) {
            return REFUSAL_OF_LONG - refuse(OTHER);
        }
        return leastTerms(now.wearOfWhole(), Math.max(1, now.wholeCount()), part);
    }

    /** Part 0 above, 1 below the line; above is 0 or more, below 1 or more. */
    private static long leastTerms(long above, long below, int part) {
        long divisor = below;
        long rest = above;
        for (int i = 0; i < 200 && rest != 0; i++) {
            long next = divisor % rest;
            divisor = rest;
            rest = next;
        }
        if (divisor == 0) {
            return part;
        }
        return (part == 0 ? above : below) / divisor;
    }

    // ---- the row, lots ----

    public int whatIs(int thing, int what) {
        if (!now.isThing(thing)) {
            return refuse(ABSENT);
        }
        if (what < 0 || what > 1) {
            return refuse(OTHER);
        }
        return what == 0 ? kindsOfRow(thing) : figuresOfRow(thing);
    }

    private int kindsOfRow(int thing) {
        int bits = 0;
        for (int kind = 0; kind < KINDS; kind++) {
            mind.become(now);
            mind.kinds[thing] = kind;
            if (mindWearsAsRow(thing)) {
                bits |= 1 << kind;
            }
        }
        return bits;
    }

    private int figuresOfRow(int thing) {
        int bits = 0;
        for (int figure = 0; figure <= MOST_DIGIT; figure++) {
            mind.become(now);
            mind.figures[thing] = figure;
            if (mindWearsAsRow(thing)) {
                bits |= 1 << figure;
            }
        }
        return bits;
    }

    private boolean mindWearsAsRow(int thing) {
        for (int i = 0; i < rowSize; i++) {
            if (mind.wear[thing] != rowNumbers[i]) {
                return false;
            }
            mind.pass(1, 1, NONE);
        }
        return true;
    }

    public int row(int v) {
        int wrong = outside(v, 0, MOST_ROW_NUMBER);
        if (wrong != 0) {
            return refuse(wrong);
        }
        if (rowSize >= MOST_ROW) {
            return refuse(ROOM);
        }
        rowNumbers[rowSize] = v;
        rowSize++;
        return rowSize;
    }

    public int judge() {
        int size = rowSize;
        rowSize = 0;
        mind.become(now);
        for (int i = 0; i < size; i++) {
            if (mind.wholeCount() != rowNumbers[i]) {
                return i;
            }
            mind.pass(1, 1, NONE);
        }
        return NONE;
    }

    public int clear() {
        int size = rowSize;
        rowSize = 0;
        return size;
    }

    public int lots(int n, int z, int what) {
        int wrong = outside(n, 1, MOST_LANES);
        if (wrong != 0) {
            return refuse(wrong);
        }
        if (what < 0 || what > 1) {
            return refuse(OTHER);
        }
        if (now.people == 0) {
            return refuse(STATE);
        }
        int seed = z;
        int whole = 0;
        int more = 0;
        for (int lane = 0; lane < n; lane++) {
            seed = breakByLot(seed);
            mind.pass(DAYS_OF_LOTS, 1, NONE);
            whole += mind.wholeCount();
            more += mind.mendedByAll() - now.mendedByAll();
        }
        return what == 0 ? whole : more;
    }

    /** A lane of mind in which each WHOLE THING was broken by lot, or stays: the seed then. */
    private int breakByLot(int seed) {
        mind.become(now);
        int drawn = seed;
        for (int thing = 0; thing < mind.things; thing++) {
            if (mind.isWhole(thing)) {
                drawn = drawn * 1664525 + 1013904223;
                int person = (drawn & 0x7fffffff) / 256 % (mind.people + 1);
                if (person < mind.people) {
                    mind.breakers[thing] = person;
                }
            }
        }
        return drawn;
    }

    // ---- the image, counts ----

    public int image() {
        kept.become(now);
        hasKept = true;
        return now.day;
    }

    public int on() {
        if (!hasKept) {
            return refuse(STATE);
        }
        now.become(kept);
        return now.day;
    }

    public int count(int what) {
        switch (what) {
            case 0: return now.people;
            case 1: return now.things;
            case 2: return now.day;
            case 3: return now.wholeBits();
            case 4: return now.wearOfAll();
            case 5: return now.mendedByAll();
            case 6: return rowSize;
            case 7: return told.size;
            default: return what > 10 && what <= 10 + MOST_REFUSAL ? refusals[what - 10] : NONE;
        }
    }

    private int refuse(int number) {
        if (number < 0 && number >= -MOST_REFUSAL) {
            refusals[-number]++;
        }
        return number;
    }

    /** The REFUSAL of a number that is not from least to most; 0 if it is. */
    private static int outside(int v, int least, int most) {
        if (v < least) {
            return BELOW;
        }
        return v > most ? ROOM : 0;
    }

    /** PEOPLE, THINGS and DAY: what is so now, what is in mind, or what THE IMAGE keeps. */
    private static final class State {
        final int[] skills = new int[MOST_PEOPLE];
        final int[] mended = new int[MOST_PEOPLE];
        final int[] kinds = new int[MOST_THINGS];
        final int[] figures = new int[MOST_THINGS];
        final int[] owners = new int[MOST_THINGS];
        final int[] wear = new int[MOST_THINGS];
        final int[] breakers = new int[MOST_THINGS];
        int people = 0;
        int things = 0;
        int day = 0;

        void become(State other) {
            System.arraycopy(other.skills, 0, skills, 0, MOST_PEOPLE);
            System.arraycopy(other.mended, 0, mended, 0, MOST_PEOPLE);
            System.arraycopy(other.kinds, 0, kinds, 0, MOST_THINGS);
            System.arraycopy(other.figures, 0, figures, 0, MOST_THINGS);
            System.arraycopy(other.owners, 0, owners, 0, MOST_THINGS);
            System.arraycopy(other.wear, 0, wear, 0, MOST_THINGS);
            System.arraycopy(other.breakers, 0, breakers, 0, MOST_THINGS);
            people = other.people;
            things = other.things;
            day = other.day;
        }

        boolean isPerson(int person) {
            return person >= 0 && person < people;
        }

        boolean isThing(int thing) {
            return thing >= 0 && thing < things;
        }

        boolean isWhole(int thing) {
            return breakers[thing] == WHOLE;
        }

        boolean isMourned(int thing) {
            return breakers[thing] == BY_NOBODY;
        }

        /** Whether one of PEOPLE broke it who does not own it. */
        boolean isByAnother(int thing) {
            return breakers[thing] >= 0 && breakers[thing] != owners[thing];
        }

        boolean addPerson(int skill) {
            if (people >= MOST_PEOPLE) {
                return false;
            }
            skills[people] = skill;
            mended[people] = 0;
            people++;
            return true;
        }

        boolean addThing(int kind, int figure, int owner) {
            if (things >= MOST_THINGS || !isPerson(owner)) {
                return false;
            }
            kinds[things] = kind;
            figures[things] = figure;
            owners[things] = owner;
            wear[things] = 0;
            breakers[things] = WHOLE;
            things++;
            return true;
        }

        int hardOf(int thing) {
            int figure = figures[thing];
            int asWheel = Math.min(MOST_DIGIT, figure + 1);
            int owner = owners[thing];
            switch (kinds[thing]) {
                case CUP: return figure / 2;
                case WHEEL: return asWheel;
                case CLOCK: return Math.min(MOST_DIGIT, figure + 2);
                case TOOL: return isPerson(owner) && skills[owner] >= ABLE_OWNER ? 0 : asWheel;
                default: return figure;
            }
        }

        /** By how much WEAR of a THING, were it WHOLE, is more on a DAY. */
        int moreWearOf(int thing, int onDay) {
            int asThing = onDay % 2 == 0 ? 1 : 0;
            int asGate = asThing + 1;
            int asWheel = asGate + 1;
            switch (kinds[thing]) {
                case CUP: return 0;
                case GATE: return asGate;
                case WHEEL: return asWheel;
                case CLOCK: return asThing + figures[thing] / 4;
                case TOOL: return asWheel / 2;
                default: return asThing;
            }
        }

        /** Who MAY MEND it, were it broken by somebody else (bits). */
        int ableBits(int thing) {
            int hard = hardOf(thing);
            int bits = 0;
            for (int person = 0; person < people; person++) {
                if (skills[person] >= hard) {
                    bits |= 1 << person;
                }
            }
            return bits;
        }

        boolean mayMend(int person, int thing) {
            int by = breakers[thing];
            return by >= 0 && by != person && skills[person] >= hardOf(thing);
        }

        int mendersNow(int thing) {
            int menders = 0;
            for (int person = 0; person < people; person++) {
                if (mayMend(person, thing)) {
                    menders++;
                }
            }
            return menders;
        }

        void mend(int person, int thing) {
            breakers[thing] = WHOLE;
            wear[thing] = 0;
            mended[person] = Math.min(MOST_MENDED, mended[person] + 1);
        }

        /** n DAYS on which WHOLE THINGS WEAR some times as much, and one (or NONE) mends nothing. */
        void pass(int n, int times, int idle) {
            for (int i = 0; i < n; i++) {
                day++;
                wearAll(times);
                for (int person = 0; person < people && canBeMended(); person++) {
                    if (person != idle) {
                        mendLeast(person);
                    }
                }
            }
        }

        /** Whether any is broken by PEOPLE: on most of the many DAYS in mind none is, and nobody need look. */
        private boolean canBeMended() {
            for (int thing = 0; thing < things; thing++) {
                if (breakers[thing] >= 0) {
                    return true;
                }
            }
            return false;
        }

        private void wearAll(int times) {
            for (int thing = 0; thing < things; thing++) {
                if (isWhole(thing)) {
                    wearMore(thing, times * moreWearOf(thing, day));
                }
            }
        }

        private void wearMore(int thing, int more) {
            wear[thing] += more;
            if (wear[thing] > MOST_DIGIT) {
                wear[thing] = MOST_DIGIT;
                breakers[thing] = BY_NOBODY;
            }
        }

        private void mendLeast(int person) {
            for (int thing = 0; thing < things; thing++) {
                if (mayMend(person, thing)) {
                    mend(person, thing);
                    return;
                }
            }
        }

        void breakLeastOf(int owner, int person) {
            for (int thing = 0; thing < things; thing++) {
                if (owners[thing] == owner && isWhole(thing)) {
                    breakers[thing] = person;
                    return;
                }
            }
        }

        /** Who broke the least of his THINGS that another one broke; NONE. */
        int breakerOfLeast(int owner) {
            for (int thing = 0; thing < things; thing++) {
                if (owners[thing] == owner && isByAnother(thing)) {
                    return breakers[thing];
                }
            }
            return NONE;
        }

        boolean hasBrokenOf(int person, int owner) {
            for (int thing = 0; thing < things; thing++) {
                if (breakers[thing] == person && owners[thing] == owner) {
                    return true;
                }
            }
            return false;
        }

        int ownedBy(int person) {
            int owned = 0;
            for (int thing = 0; thing < things; thing++) {
                owned += owners[thing] == person ? 1 : 0;
            }
            return owned;
        }

        int brokenBy(int person) {
            int broken = 0;
            for (int thing = 0; thing < things; thing++) {
                broken += breakers[thing] == person ? 1 : 0;
            }
            return broken;
        }

        int wholeOf(int owner) {
            int whole = 0;
            for (int thing = 0; thing < things; thing++) {
                whole += owners[thing] == owner && isWhole(thing) ? 1 : 0;
            }
            return whole;
        }

        /** The FIGURES of his WHOLE THINGS together. */
        int riches(int owner) {
            int sum = 0;
            for (int thing = 0; thing < things; thing++) {
                sum += owners[thing] == owner && isWhole(thing) ? figures[thing] : 0;
            }
            return sum;
        }

        int wholeBits() {
            int bits = 0;
            for (int thing = 0; thing < things; thing++) {
                bits |= isWhole(thing) ? 1 << thing : 0;
            }
            return bits;
        }

        int wholeCount() {
            return Integer.bitCount(wholeBits());
        }

        int mournedBits() {
            int bits = 0;
            for (int thing = 0; thing < things; thing++) {
                bits |= isMourned(thing) ? 1 << thing : 0;
            }
            return bits;
        }

        int wearOfWhole() {
            int sum = 0;
            for (int thing = 0; thing < things; thing++) {
                sum += isWhole(thing) ? wear[thing] : 0;
            }
            return sum;
        }

        int wearOfAll() {
            int sum = 0;
            for (int thing = 0; thing < things; thing++) {
                sum += wear[thing];
            }
            return sum;
        }

        int mendedByAll() {
            int sum = 0;
            for (int person = 0; person < people; person++) {
                sum += mended[person];
            }
            return sum;
        }
    }

    /** The letters that are told, and how they are read as a LANE. */
    private static final class Letters {
        private final int[] signs = new int[MOST_LETTERS];
        private int size = 0;

        boolean hasRoom() {
            return size < MOST_LETTERS;
        }

        int take(int c) {
            if (hasRoom()) {
                signs[size] = c;
                size++;
            }
            return size;
        }

        void forget() {
            size = 0;
        }

        /** The place of a FAULT of kind 1; NONE. */
        int formFault() {
            if (size == 0) {
                return 0;
            }
            int at = 0;
            while (at < size) {
                int parts = partsBehind(sign(at));
                if (parts == 0) {
                    return at;
                }
                for (int i = 1; i <= parts + 1; i++) {
                    if (at + i >= size) {
                        return size;
                    }
                    if (!fits(at, i, parts)) {
                        return at + i;
                    }
                }
                at += parts + 2;
            }
            return NONE;
        }

        /** How many letters a STATEMENT has between its first and its ";"; 0 if it is none. */
        private static int partsBehind(int sign) {
            switch (sign) {
                case 'p':
                case 'n': return 1;
                case 'b':
                case 's':
                case 'w':
                case 'd': return 2;
                case 't': return 3;
                default: return 0;
            }
        }

        private boolean fits(int at, int i, int parts) {
            int sign = sign(at + i);
            if (i > parts) {
                return sign == ';';
            }
            if (i == 1 && sign(at) == 't') {
                return kindOf(sign) != NONE;
            }
            return sign >= '0' && sign <= '9';
        }

        private static int kindOf(int sign) {
            switch (sign) {
                case 't': return THING;
                case 'c': return CUP;
                case 'g': return GATE;
                case 'w': return WHEEL;
                case 'k': return CLOCK;
                case 'l': return TOOL;
                default: return NONE;
            }
        }

        /** Lets the STATEMENTS, which have no FAULT of kind 1, come to a state: how many, or the FAULT. */
        int tellTo(State state) {
            int statements = 0;
            int at = 0;
            while (at < size) {
                if (!tellOne(state, at)) {
                    return SENSE_FAULT - at;
                }
                statements++;
                at += partsBehind(sign(at)) + 2;
            }
            return statements;
        }

        private boolean tellOne(State state, int at) {
            int one = sign(at + 1) - '0';
            int other = sign(at + 2) - '0';
            switch (sign(at)) {
                case 'p': return state.addPerson(one);
                case 't': return state.addThing(kindOf(sign(at + 1)), other, sign(at + 3) - '0');
                case 'b': return state.isPerson(one) && tellBroken(state, other, WHOLE, one);
                case 'n': return tellBroken(state, one, WHOLE, BY_NOBODY);
                case 's': return state.isPerson(one) && tellBroken(state, other, BY_NOBODY, one);
                case 'w': return tellWear(state, one, other);
                default: break;
            }
            int n = 10 * one + other;
            if (n < 1 || n > MOST_DAYS || state.day + n > MOST_DAY) {
                return false;
            }
            state.pass(n, 1, NONE);
            return true;
        }

        private int sign(int at) {
            return at >= 0 && at < size ? signs[at] : 0;
        }

        /** A THING that is broken as before becomes broken as then. */
        private static boolean tellBroken(State state, int thing, int before, int then) {
            if (!state.isThing(thing) || state.breakers[thing] != before) {
                return false;
            }
            state.breakers[thing] = then;
            return true;
        }

        private static boolean tellWear(State state, int thing, int v) {
            if (!state.isThing(thing)) {
                return false;
            }
            state.wear[thing] = v;
            return true;
        }
    }

    /** The most THINGS broken by PEOPLE that are mended at once, nobody mending two. */
    private static final class Pairing {
        private static final int SETS = 1 << MOST_PEOPLE;

        /** At thing * SETS + busy: the most of the THINGS from thing on by those who are not busy (bits). */
        private final int[] best = new int[(MOST_THINGS + 1) * SETS];

        void fill(State state) {
            for (int busy = 0; busy < SETS; busy++) {
                best[state.things * SETS + busy] = 0;
            }
            for (int thing = state.things - 1; thing >= 0; thing--) {
                for (int busy = 0; busy < SETS; busy++) {
                    best[thing * SETS + busy] = mostFrom(state, thing, busy);
                }
            }
        }

        private int mostFrom(State state, int thing, int busy) {
            int most = best[(thing + 1) * SETS + busy];
            for (int person = 0; person < state.people; person++) {
                if (isFree(state, person, busy, thing)) {
                    most = Math.max(most, 1 + best[(thing + 1) * SETS + (busy | 1 << person)]);
                }
            }
            return most;
        }

        private static boolean isFree(State state, int person, int busy, int thing) {
            return (busy & 1 << person) == 0 && state.mayMend(person, thing);
        }

        int most() {
            return best[0];
        }

        /** The mender of a THING by the first pairing of the state that filled the table; NONE. */
        int menderOf(State state, int thing) {
            int busy = 0;
            int mender = NONE;
            for (int at = 0; at <= thing; at++) {
                mender = leastMender(state, at, busy);
                busy |= mender == NONE ? 0 : 1 << mender;
            }
            return mender;
        }

        private int leastMender(State state, int thing, int busy) {
            int most = best[thing * SETS + busy];
            for (int person = 0; person < state.people; person++) {
                if (isFree(state, person, busy, thing)
                        && 1 + best[(thing + 1) * SETS + (busy | 1 << person)] == most) {
                    return person;
                }
            }
            return NONE;
        }
    }
}
