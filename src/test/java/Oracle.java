import java.math.BigInteger;
import java.util.ArrayList;
import java.util.Arrays;
import java.util.List;
import java.util.regex.Matcher;
import java.util.regex.Pattern;

/** The document once more, slowly and with the Java library, to hold the program's answers against. */
final class Oracle {
    private static final Pattern LANE =
        Pattern.compile("(p[0-9];|t[tcgwkl][0-9][0-9];|b[0-9][0-9];|n[0-9];|s[0-9][0-9];|w[0-9][0-9];|d[0-9][0-9];)+");
    private static final int NOBODY = -8;
    private static final int WHOLE = -9;

    private static final class Person {
        int skill;
        int mended;
    }

    private static final class Thing {
        char kind;
        int figure;
        Person owner;
        int wear;
        /** WHOLE if false; else by a person, or by nobody if null. */
        boolean broken;
        Person by;
    }

    private static final class Lane {
        final List<Person> people = new ArrayList<>();
        final List<Thing> things = new ArrayList<>();
        int day;

        Lane copy() {
            Lane other = new Lane();
            other.day = day;
            for (Person p : people) {
                Person q = new Person();
                q.skill = p.skill;
                q.mended = p.mended;
                other.people.add(q);
            }
            for (Thing t : things) {
                Thing u = new Thing();
                u.kind = t.kind;
                u.figure = t.figure;
                u.wear = t.wear;
                u.broken = t.broken;
                u.owner = other.people.get(people.indexOf(t.owner));
                u.by = t.by == null ? null : other.people.get(people.indexOf(t.by));
                other.things.add(u);
            }
            return other;
        }

        int byOf(int i) {
            Thing t = things.get(i);
            return !t.broken ? WHOLE : t.by == null ? NOBODY : people.indexOf(t.by);
        }

        int wholeCount() {
            return (int) things.stream().filter(t -> !t.broken).count();
        }

        int wholeBits() {
            int bits = 0;
            for (Thing t : things) {
                bits += t.broken ? 0 : 1 << things.indexOf(t);
            }
            return bits;
        }

        int mended() {
            return people.stream().mapToInt(p -> p.mended).sum();
        }

        static int more(Thing t, int day) {
            boolean even = day % 2 == 0;
            return switch (t.kind) {
                case 't' -> even ? 1 : 0;
                case 'c' -> 0;
                case 'g' -> even ? 2 : 1;
                case 'w' -> even ? 3 : 2;
                case 'k' -> (even ? 1 : 0) + t.figure / 4;
                default -> 1;
            };
        }

        static int hard(Thing t) {
            return switch (t.kind) {
                case 't', 'g' -> t.figure;
                case 'c' -> t.figure / 2;
                case 'w' -> t.figure == 9 ? 9 : t.figure + 1;
                case 'k' -> t.figure >= 7 ? 9 : t.figure + 2;
                default -> t.owner.skill >= 5 ? 0 : t.figure == 9 ? 9 : t.figure + 1;
            };
        }

        static boolean may(Person p, Thing t) {
            return t.broken && t.by != null && t.by != p && p.skill >= hard(t);
        }

        static void mend(Person p, Thing t) {
            t.broken = false;
            t.by = null;
            t.wear = 0;
            if (p.mended < 999) {
                p.mended++;
            }
        }

        static void breakIt(Thing t, Person by) {
            t.broken = true;
            t.by = by;
        }

        Lane day(int times, Person without) {
            day++;
            for (Thing t : things) {
                if (!t.broken) {
                    int wear = t.wear + times * more(t, day);
                    if (wear >= 10) {
                        breakIt(t, null);
                        wear = 9;
                    }
                    t.wear = wear;
                }
            }
            for (Person p : people) {
                if (p != without) {
                    things.stream().filter(t -> may(p, t)).findFirst().ifPresent(t -> mend(p, t));
                }
            }
            return this;
        }

        Lane days(int n) {
            for (int i = 0; i < n; i++) {
                day(1, null);
            }
            return this;
        }
    }

    private Lane lane = new Lane();
    private Lane image;
    private StringBuilder text = new StringBuilder();
    private final List<Integer> row = new ArrayList<>();
    private final int[] refusals = new int[7];

    private int no(int number) {
        refusals[-number]++;
        return number;
    }

    private boolean noPerson(int p) {
        return p < 0 || p >= lane.people.size();
    }

    private boolean noThing(int t) {
        return t < 0 || t >= lane.things.size();
    }

    int letter(int c) {
        if (c < 0) {
            return no(-4);
        }
        if (c > 255 || text.length() == 96) {
            return no(-6);
        }
        text.append((char) c);
        return text.length();
    }

    int lane() {
        String all = text.toString();
        text = new StringBuilder();
        if (!LANE.matcher(all).matches()) {
            for (int end = 0; end <= all.length(); end++) {
                Matcher m = LANE.matcher(all.substring(0, end));
                if (!m.matches() && !m.hitEnd()) {
                    return -1000 - (end - 1);
                }
            }
            return -1000 - all.length();
        }
        Lane then = lane.copy();
        int place = 0;
        int statements = 0;
        for (String s : all.split(";")) {
            if (!statement(then, s)) {
                return -2000 - place;
            }
            place += s.length() + 1;
            statements++;
        }
        lane = then;
        return statements;
    }

    private static boolean statement(Lane l, String s) {
        int last = s.charAt(s.length() - 1) - '0';
        int next = s.length() > 2 ? s.charAt(s.length() - 2) - '0' : -1;
        switch (s.charAt(0)) {
            case 'p': {
                if (l.people.size() == 6) {
                    return false;
                }
                Person p = new Person();
                p.skill = last;
                l.people.add(p);
                return true;
            }
            case 't': {
                if (l.things.size() == 9 || last >= l.people.size()) {
                    return false;
                }
                Thing t = new Thing();
                t.kind = s.charAt(1);
                t.figure = next;
                t.owner = l.people.get(last);
                l.things.add(t);
                return true;
            }
            case 'd': {
                int n = Integer.parseInt(s.substring(1));
                if (n == 0 || n > 60 || l.day + n > 999) {
                    return false;
                }
                l.days(n);
                return true;
            }
            case 'w':
                if (next >= l.things.size()) {
                    return false;
                }
                l.things.get(next).wear = last;
                return true;
            case 'n':
                if (last >= l.things.size() || l.things.get(last).broken) {
                    return false;
                }
                Lane.breakIt(l.things.get(last), null);
                return true;
            default:
                if (next >= l.people.size() || last >= l.things.size()
                    || l.byOf(last) != (s.charAt(0) == 'b' ? WHOLE : NOBODY)) {
                    return false;
                }
                Lane.breakIt(l.things.get(last), l.people.get(next));
                return true;
        }
    }

    int person(int person, int what) {
        if (noPerson(person)) {
            return no(-1);
        }
        Person p = lane.people.get(person);
        return switch (what) {
            case 0 -> p.skill;
            case 1 -> p.mended;
            case 2 -> (int) lane.things.stream().filter(t -> t.owner == p).count();
            case 3 -> (int) lane.things.stream().filter(t -> t.broken && t.by == p).count();
            default -> no(-2);
        };
    }

    int thing(int thing, int what) {
        if (noThing(thing)) {
            return no(-1);
        }
        Thing t = lane.things.get(thing);
        return switch (what) {
            case 0 -> "tcgwkl".indexOf(t.kind);
            case 1 -> t.figure;
            case 2 -> lane.people.indexOf(t.owner);
            case 3 -> t.wear;
            case 4 -> lane.byOf(thing);
            case 5 -> Lane.hard(t);
            case 6 -> Lane.more(t, lane.day + 1);
            default -> no(-2);
        };
    }

    int breaks(int person, int thing) {
        if (noPerson(person) || noThing(thing)) {
            return no(-1);
        }
        if (lane.byOf(thing) != WHOLE) {
            return no(-3);
        }
        Lane.breakIt(lane.things.get(thing), lane.people.get(person));
        return lane.wholeCount();
    }

    int rusts(int thing) {
        if (noThing(thing)) {
            return no(-1);
        }
        if (lane.byOf(thing) != WHOLE) {
            return no(-3);
        }
        Lane.breakIt(lane.things.get(thing), null);
        return lane.wholeCount();
    }

    int says(int person, int thing) {
        if (noPerson(person) || noThing(thing)) {
            return no(-1);
        }
        if (lane.byOf(thing) != NOBODY) {
            return no(-3);
        }
        Thing t = lane.things.get(thing);
        Lane.breakIt(t, lane.people.get(person));
        return (int) lane.people.stream().filter(p -> Lane.may(p, t)).count();
    }

    int mends(int person, int thing) {
        if (noPerson(person) || noThing(thing)) {
            return no(-1);
        }
        if (!Lane.may(lane.people.get(person), lane.things.get(thing))) {
            return no(-3);
        }
        Lane.mend(lane.people.get(person), lane.things.get(thing));
        return lane.wholeCount();
    }

    int wears(int thing, int v) {
        if (noThing(thing)) {
            return no(-1);
        }
        if (v < 0 || v > 9) {
            return no(v < 0 ? -4 : -6);
        }
        int was = lane.things.get(thing).wear;
        lane.things.get(thing).wear = v;
        return was;
    }

    int skill(int person, int v) {
        if (noPerson(person)) {
            return no(-1);
        }
        if (v < 0 || v > 9) {
            return no(v < 0 ? -4 : -6);
        }
        int was = lane.people.get(person).skill;
        lane.people.get(person).skill = v;
        return was;
    }

    int turn(int thing, int kind, int figure) {
        if (noThing(thing)) {
            return no(-1);
        }
        if (kind < 0 || kind > 5) {
            return no(-2);
        }
        if (figure < 0 || figure > 9) {
            return no(figure < 0 ? -4 : -6);
        }
        Thing t = lane.things.get(thing);
        int was = 10 * "tcgwkl".indexOf(t.kind) + t.figure;
        t.kind = "tcgwkl".charAt(kind);
        t.figure = figure;
        return was;
    }

    int days(int n) {
        if (n < 1) {
            return no(-4);
        }
        if (n > 60 || lane.day + n > 999) {
            return no(-6);
        }
        return lane.days(n).wholeCount();
    }

    private int ahead(int n) {
        return n < 0 ? no(-4) : n > 99 ? no(-6) : 0;
    }

    int wholeThen(int n) {
        int no = ahead(n);
        return no != 0 ? no : lane.copy().days(n).wholeBits();
    }

    int brokenThen(int thing, int n) {
        if (noThing(thing)) {
            return no(-1);
        }
        int no = ahead(n);
        return no != 0 ? no : lane.copy().days(n).byOf(thing);
    }

    int mendedThen(int n) {
        int no = ahead(n);
        return no != 0 ? no : lane.copy().days(n).mended() - lane.mended();
    }

    int again(int thing, int what) {
        if (noThing(thing)) {
            return no(-1);
        }
        if (what != 0 && what != 1) {
            return no(-2);
        }
        for (int n = 0; n < 100; n++) {
            if ((lane.copy().days(n).byOf(thing) == WHOLE) == (what == 0)) {
                return n;
            }
        }
        return -9;
    }

    int mourned(int what) {
        if (what == 0) {
            int bits = 0;
            for (int t = 0; t < lane.things.size(); t++) {
                bits += lane.byOf(t) == NOBODY ? 1 << t : 0;
            }
            return bits;
        }
        if (what != 1) {
            return no(-2);
        }
        for (int n = 0; n < 100; n++) {
            if (lane.copy().days(n).wholeCount() == lane.things.size()) {
                return n;
            }
        }
        return -9;
    }

    int first(int what) {
        if (what != 0 && what != 1) {
            return no(-2);
        }
        int when = 100;
        int which = -9;
        for (int t = lane.things.size() - 1; t >= 0; t--) {
            int n = 0;
            while (n < 100 && lane.copy().days(n).byOf(t) == WHOLE) {
                n++;
            }
            if (n > 0 && n < 100 && n <= when) {
                when = n;
                which = t;
            }
        }
        return which < 0 ? -9 : what == 0 ? which : when;
    }

    int menders(int thing) {
        if (noThing(thing)) {
            return no(-1);
        }
        int bits = 0;
        for (int p = 0; p < lane.people.size(); p++) {
            bits += lane.people.get(p).skill >= Lane.hard(lane.things.get(thing)) ? 1 << p : 0;
        }
        return bits;
    }

    private int[] bestPairing;
    private int bestPaired;

    private void pair(int[] pairing, int t, int paired) {
        if (t == pairing.length) {
            if (paired > bestPaired) {
                bestPaired = paired;
                bestPairing = pairing.clone();
            }
            return;
        }
        for (int p = 0; p < lane.people.size(); p++) {
            int person = p;
            boolean busy = Arrays.stream(pairing, 0, t).anyMatch(q -> q == person);
            if (!busy && Lane.may(lane.people.get(p), lane.things.get(t))) {
                pairing[t] = p;
                pair(pairing, t + 1, paired + 1);
            }
        }
        pairing[t] = -9;
        pair(pairing, t + 1, paired);
    }

    int together(int thing) {
        if (thing != -1 && noThing(thing)) {
            return no(-1);
        }
        bestPaired = -1;
        pair(new int[lane.things.size()], 0, 0);
        return thing == -1 ? bestPaired : bestPairing[thing];
    }

    int lost() {
        int bits = 0;
        for (int t = 0; t < lane.things.size(); t++) {
            Thing it = lane.things.get(t);
            bits += it.broken && lane.people.stream().noneMatch(p -> Lane.may(p, it)) ? 1 << t : 0;
        }
        return bits;
    }

    int breaker(int thing) {
        if (noThing(thing)) {
            return no(-1);
        }
        if (lane.byOf(thing) != WHOLE) {
            return no(-3);
        }
        for (int n = 1; n < 100; n++) {
            for (int p = 0; p < lane.people.size(); p++) {
                Lane l = lane.copy();
                Lane.breakIt(l.things.get(thing), l.people.get(p));
                if (l.days(n).byOf(thing) == WHOLE) {
                    return p;
                }
            }
        }
        return -9;
    }

    int bestSays(int n) {
        int no = ahead(n);
        if (no != 0) {
            return no;
        }
        int most = lane.copy().days(n).wholeCount();
        int best = -9;
        for (int t = 0; t < lane.things.size(); t++) {
            for (int p = 0; p < lane.people.size(); p++) {
                if (lane.byOf(t) == NOBODY) {
                    Lane l = lane.copy();
                    Lane.breakIt(l.things.get(t), l.people.get(p));
                    int whole = l.days(n).wholeCount();
                    if (whole > most) {
                        most = whole;
                        best = 10 * t + p;
                    }
                }
            }
        }
        return best;
    }

    int confessions() {
        for (int size = 0; size <= lane.people.size(); size++) {
            for (int bits = 0; bits < 1 << lane.people.size(); bits++) {
                if (Integer.bitCount(bits) == size && confessed(bits)) {
                    return bits;
                }
            }
        }
        return -9;
    }

    private boolean confessed(int bits) {
        for (int t = 0; t < lane.things.size(); t++) {
            boolean so = lane.byOf(t) != NOBODY;
            for (int p = 0; p < lane.people.size(); p++) {
                if ((bits >> p) % 2 == 1) {
                    Lane l = lane.copy();
                    Thing it = l.things.get(t);
                    Lane.breakIt(it, l.people.get(p));
                    so |= l.people.stream().anyMatch(q -> Lane.may(q, it));
                }
            }
            if (!so) {
                return false;
            }
        }
        return true;
    }

    int learns(int n) {
        int no = ahead(n);
        if (no != 0) {
            return no;
        }
        int most = lane.copy().days(n).wholeCount();
        int best = -9;
        for (int p = 0; p < lane.people.size(); p++) {
            Lane l = lane.copy();
            l.people.get(p).skill = 9;
            int whole = l.days(n).wholeCount();
            if (whole > most) {
                most = whole;
                best = p;
            }
        }
        return best;
    }

    int missed(int n) {
        int no = ahead(n);
        if (no != 0) {
            return no;
        }
        int least = 100;
        int best = -9;
        for (int p = 0; p < lane.people.size(); p++) {
            Lane l = lane.copy();
            for (int i = 0; i < n; i++) {
                l.day(1, l.people.get(p));
            }
            if (l.wholeCount() < least) {
                least = l.wholeCount();
                best = p;
            }
        }
        return best;
    }

    private boolean brokeOf(Person p, Person owner) {
        return lane.things.stream().anyMatch(t -> t.broken && t.by == p && t.owner == owner);
    }

    int due(int person) {
        if (noPerson(person)) {
            return 1000000000 - no(-1);
        }
        Person p = lane.people.get(person);
        long gave = lane.things.stream().filter(t -> t.broken && t.by == p && t.owner != p).count();
        long took = lane.things.stream().filter(t -> t.broken && t.by != null && t.by != p && t.owner == p).count();
        return (int) (gave - took);
    }

    int ring(int person, int what) {
        if (noPerson(person)) {
            return no(-1);
        }
        if (what != 0 && what != 1) {
            return no(-2);
        }
        List<Person> seen = new ArrayList<>();
        Person at = lane.people.get(person);
        while (at != null && !seen.contains(at)) {
            seen.add(at);
            Person owner = at;
            at = lane.things.stream().filter(t -> t.owner == owner && t.broken && t.by != null && t.by != owner)
                .map(t -> t.by).findFirst().orElse(null);
        }
        return what == 0 ? seen.size() : at == null ? 0 : 1;
    }

    int arranged(int what) {
        int answer = what == 0 ? 0 : -9;
        int most = what == 1 ? 0 : -1;
        if (what < 0 || what > 2) {
            return no(-2);
        }
        for (Person p : lane.people) {
            int number = lane.people.indexOf(p);
            int value = 0;
            for (Thing t : lane.things) {
                value += what == 1 && t.broken && t.by == p ? 1 : 0;
                value += what == 2 && !t.broken && t.owner == p ? t.figure : 0;
            }
            if (what != 0 && value > most) {
                most = value;
                answer = number;
            }
            for (Person q : lane.people.subList(number + 1, lane.people.size())) {
                answer += what == 0 && brokeOf(p, q) && brokeOf(q, p) ? 1 : 0;
            }
        }
        return answer;
    }

    private long own(int a, int b, int n, int x, int y, int whose) {
        Lane l = lane.copy();
        Person first = l.people.get(a);
        Person other = l.people.get(b);
        if (x == 1) {
            l.things.stream().filter(t -> t.owner == other && !t.broken).findFirst().ifPresent(t -> Lane.breakIt(t, first));
        }
        if (y == 1) {
            l.things.stream().filter(t -> t.owner == first && !t.broken).findFirst().ifPresent(t -> Lane.breakIt(t, other));
        }
        l.days(n);
        return l.things.stream().filter(t -> t.owner == l.people.get(whose) && !t.broken).count();
    }

    int two(int a, int b, int n) {
        if (noPerson(a) || noPerson(b) || a == b) {
            return no(-1);
        }
        int no = ahead(n);
        if (no != 0) {
            return no;
        }
        for (int x = 0; x < 2; x++) {
            for (int y = 0; y < 2; y++) {
                if (own(a, b, n, 1 - x, y, a) <= own(a, b, n, x, y, a)
                    && own(a, b, n, x, 1 - y, b) <= own(a, b, n, x, y, b)) {
                    return 10 * x + y;
                }
            }
        }
        return -9;
    }

    private BigInteger ways(Lane l, int thing, int n, int t) {
        if (n == 0) {
            return l.byOf(thing) == WHOLE ? BigInteger.ONE : BigInteger.ZERO;
        }
        BigInteger calm = ways(l.copy().day(1, null), thing, n - 1, t);
        return calm.multiply(BigInteger.valueOf(t - 1)).add(ways(l.copy().day(2, null), thing, n - 1, t));
    }

    private static long part(BigInteger above, BigInteger below, int part) {
        BigInteger divisor = above.gcd(below);
        return (part == 0 ? above : below).divide(divisor).longValue();
    }

    long storm(int thing, int n, int t, int part) {
        long base = 4000000000000000000L;
        if (noThing(thing)) {
            return base - no(-1);
        }
        if (n < 0 || t < 2) {
            return base - no(-4);
        }
        if (n > 7 || t > 20) {
            return base - no(-6);
        }
        if (part != 0 && part != 1) {
            return base - no(-2);
        }
        return part(ways(lane, thing, n, t), BigInteger.valueOf(t).pow(n), part);
    }

    long mean(int part) {
        if (part != 0 && part != 1) {
            return 4000000000000000000L - no(-2);
        }
        int sum = lane.things.stream().filter(t -> !t.broken).mapToInt(t -> t.wear).sum();
        return part(BigInteger.valueOf(sum), BigInteger.valueOf(lane.wholeCount() == 0 ? 1 : lane.wholeCount()), part);
    }

    int whatIs(int thing, int what) {
        if (noThing(thing)) {
            return no(-1);
        }
        if (what != 0 && what != 1) {
            return no(-2);
        }
        int bits = 0;
        for (int i = 0; i < (what == 0 ? 6 : 10); i++) {
            boolean so = true;
            for (int n = 0; n < row.size(); n++) {
                Lane l = lane.copy();
                if (what == 0) {
                    l.things.get(thing).kind = "tcgwkl".charAt(i);
                } else {
                    l.things.get(thing).figure = i;
                }
                so &= l.days(n).things.get(thing).wear == row.get(n);
            }
            bits += so ? 1 << i : 0;
        }
        return bits;
    }

    int row(int v) {
        if (v < 0) {
            return no(-4);
        }
        if (v > 99 || row.size() == 16) {
            return no(-6);
        }
        row.add(v);
        return row.size();
    }

    /** For a ROW that is told truly: WEAR of a THING (how many are WHOLE, where there is none such). */
    int ahead(int thing, int n) {
        Lane then = lane.copy().days(n);
        return noThing(thing) ? then.wholeCount() : then.things.get(thing).wear;
    }

    int judge() {
        int answer = -9;
        for (int n = row.size() - 1; n >= 0; n--) {
            if (lane.copy().days(n).wholeCount() != row.get(n)) {
                answer = n;
            }
        }
        row.clear();
        return answer;
    }

    int clear() {
        int had = row.size();
        row.clear();
        return had;
    }

    int lots(int n, int z, int what) {
        if (n < 1) {
            return no(-4);
        }
        if (n > 20) {
            return no(-6);
        }
        if (what != 0 && what != 1) {
            return no(-2);
        }
        if (lane.people.isEmpty()) {
            return no(-3);
        }
        BigInteger seed = BigInteger.valueOf(z);
        int sum = 0;
        for (int i = 0; i < n; i++) {
            Lane l = lane.copy();
            for (Thing t : l.things) {
                if (!t.broken) {
                    seed = seed.multiply(BigInteger.valueOf(1664525)).add(BigInteger.valueOf(1013904223));
                    int drawn = seed.mod(BigInteger.TWO.pow(31)).divide(BigInteger.valueOf(256))
                        .mod(BigInteger.valueOf(l.people.size() + 1)).intValue();
                    if (drawn < l.people.size()) {
                        Lane.breakIt(t, l.people.get(drawn));
                    }
                    seed = BigInteger.valueOf(seed.intValue());
                }
            }
            l.days(10);
            sum += what == 0 ? l.wholeCount() : l.mended() - lane.mended();
        }
        return sum;
    }

    int image() {
        image = lane.copy();
        return lane.day;
    }

    int on() {
        if (image == null) {
            return no(-3);
        }
        lane = image.copy();
        return lane.day;
    }

    int count(int what) {
        return switch (what) {
            case 0 -> lane.people.size();
            case 1 -> lane.things.size();
            case 2 -> lane.day;
            case 3 -> lane.wholeBits();
            case 4 -> lane.things.stream().mapToInt(t -> t.wear).sum();
            case 5 -> lane.mended();
            case 6 -> row.size();
            case 7 -> text.length();
            case 11, 12, 13, 14, 15, 16 -> refusals[what - 10];
            default -> -9;
        };
    }
}
