import java.util.ArrayList;
import java.util.Arrays;
import java.util.List;
import java.util.function.Predicate;

/**
 * Each call with every number at, about and far from its bounds, all together: which REFUSAL it answers, that it is
 * the first that fits in the order in which its promise tells them, that it is counted once, and that nothing else
 * changes (nor THE IMAGE, the ROW, letters). The rules below are the promises' own lines.
 */
public final class RefusalsTest {
    private static final int[] FAR = {Integer.MIN_VALUE, Integer.MIN_VALUE + 1, Integer.MAX_VALUE - 1, Integer.MAX_VALUE};
    private static final long OF_DUE = 1000000000L;
    private static final long OF_LONGS = 4000000000000000000L;
    private static final Check C = new Check();

    private interface Call {
        long of(MendAnothersBreaking x, int[] a);
    }

    private record Rule(int number, Predicate<int[]> fits) {
    }

    /** A call: the values its arguments are given, what its REFUSALS are taken from (0: they are told plainly). */
    private record Spec(String name, long from, int[][] values, Call call, Rule... rules) {
        long due(int number) {
            return from == 0 ? number : from - number;
        }

        int number(int[] a) {
            for (Rule rule : rules) {
                if (rule.fits.test(a)) {
                    return rule.number;
                }
            }
            return 0;
        }
    }

    /** A state to call in: a lane, a few DAYS, what is broken then. */
    private record Place(String lane, int days, boolean image) {
        MendAnothersBreaking made() {
            MendAnothersBreaking x = new MendAnothersBreaking();
            if (!lane.isEmpty()) {
                Lanes.tell(x, lane);
            }
            if (image) {
                x.image();
            }
            for (int left = days; left > 0; left -= 60) {
                x.days(Math.min(60, left));
            }
            Lanes.letters(x, "d07;");
            x.row(3);
            x.row(2);
            return x;
        }
    }

    private static final Place[] PLACES = {
        new Place("", 0, false),
        new Place("p7;", 3, true),
        new Place("p9;p5;p0;tt00;tk91;tl72;tc31;b00;n2;", 939, true),
        new Place("p9;p8;p7;p6;p5;p4;tt90;tc81;tg72;tw63;tk54;tl45;tt30;tc21;tc12;b00;n3;", 4, true),
    };

    private static Place place;
    private static int people;
    private static int things;
    private static int day;
    private static int[] breakers;
    private static int[] hard;
    private static int[] skills;

    public static void main(String[] args) {
        for (Place next : PLACES) {
            place = next;
            look(place.made());
            for (Spec spec : doing()) {
                combine(spec);
            }
            for (Spec spec : asking()) {
                combine(spec);
            }
            for (Spec spec : weighing()) {
                combine(spec);
            }
        }
        full();
        C.end();
    }

    private static void look(MendAnothersBreaking x) {
        people = x.count(0);
        things = x.count(1);
        day = x.count(2);
        skills = new int[people];
        for (int person = 0; person < people; person++) {
            skills[person] = x.person(person, 0);
        }
        breakers = new int[things];
        hard = new int[things];
        for (int thing = 0; thing < things; thing++) {
            breakers[thing] = x.thing(thing, 4);
            hard[thing] = x.thing(thing, 5);
        }
    }

    // ---- rules: which numbers do not fit ----

    private static Rule noPerson(int arg) {
        return new Rule(-1, a -> a[arg] < 0 || a[arg] >= people);
    }

    private static Rule noThing(int arg) {
        return new Rule(-1, a -> a[arg] < 0 || a[arg] >= things);
    }

    private static Rule other(int arg, int greatest) {
        return new Rule(-2, a -> a[arg] < 0 || a[arg] > greatest);
    }

    private static Rule below(int arg, int least) {
        return new Rule(-4, a -> a[arg] < least);
    }

    private static Rule above(int arg, int greatest) {
        return new Rule(-6, a -> a[arg] > greatest);
    }

    private static Rule state(Predicate<int[]> fits) {
        return new Rule(-3, fits);
    }

    private static boolean mayNot(int person, int thing) {
        return breakers[thing] < 0 || breakers[thing] == person || skills[person] < hard[thing];
    }

    // ---- values: at, about and far from the bounds ----

    private static int[] about(int... bounds) {
        List<Integer> all = new ArrayList<>();
        for (int bound : bounds) {
            for (int v = bound - 1; v <= bound + 1; v++) {
                if (!all.contains(v)) {
                    all.add(v);
                }
            }
        }
        for (int v : FAR) {
            all.add(v);
        }
        return all.stream().mapToInt(Integer::intValue).toArray();
    }

    /** Every one there is, and such as are not. */
    private static int[] upTo(int size) {
        int[] all = Arrays.copyOf(FAR, FAR.length + size + 4);
        for (int i = 0; i < size + 4; i++) {
            all[FAR.length + i] = i - 2;
        }
        return all;
    }

    private static int[][] with(int[]... values) {
        return values;
    }

    // ---- the promises' lines ----

    private static Spec[] doing() {
        int[] ones = upTo(people);
        int[] them = upTo(things);
        return new Spec[] {
            new Spec("letter", 0, with(about(0, 255)), (x, a) -> x.letter(a[0]), below(0, 0), above(0, 255)),
            new Spec("breaks", 0, with(ones, them), (x, a) -> x.breaks(a[0], a[1]),
                noPerson(0), noThing(1), state(a -> breakers[a[1]] != -9)),
            new Spec("rusts", 0, with(them), (x, a) -> x.rusts(a[0]), noThing(0), state(a -> breakers[a[0]] != -9)),
            new Spec("says", 0, with(ones, them), (x, a) -> x.says(a[0], a[1]),
                noPerson(0), noThing(1), state(a -> breakers[a[1]] != -8)),
            new Spec("mends", 0, with(ones, them), (x, a) -> x.mends(a[0], a[1]),
                noPerson(0), noThing(1), state(a -> mayNot(a[0], a[1]))),
            new Spec("wears", 0, with(them, about(0, 9)), (x, a) -> x.wears(a[0], a[1]), noThing(0), below(1, 0), above(1, 9)),
            new Spec("skill", 0, with(ones, about(0, 9)), (x, a) -> x.skill(a[0], a[1]), noPerson(0), below(1, 0), above(1, 9)),
            new Spec("turn", 0, with(them, about(0, 5), about(0, 9)), (x, a) -> x.turn(a[0], a[1], a[2]),
                noThing(0), other(1, 5), below(2, 0), above(2, 9)),
            new Spec("days", 0, with(about(1, 60, 999 - day)), (x, a) -> x.days(a[0]),
                below(0, 1), above(0, 60), above(0, 999 - day)),
            new Spec("row", 0, with(about(0, 99)), (x, a) -> x.row(a[0]), below(0, 0), above(0, 99)),
            new Spec("on", 0, with(), (x, a) -> x.on(), state(a -> !place.image)),
        };
    }

    private static Spec[] asking() {
        int[] ones = upTo(people);
        int[] them = upTo(things);
        int[] ahead = about(0, 99);
        return new Spec[] {
            new Spec("person", 0, with(ones, about(0, 3)), (x, a) -> x.person(a[0], a[1]), noPerson(0), other(1, 3)),
            new Spec("thing", 0, with(them, about(0, 6)), (x, a) -> x.thing(a[0], a[1]), noThing(0), other(1, 6)),
            new Spec("wholeThen", 0, with(ahead), (x, a) -> x.wholeThen(a[0]), below(0, 0), above(0, 99)),
            new Spec("brokenThen", 0, with(them, ahead), (x, a) -> x.brokenThen(a[0], a[1]), noThing(0), below(1, 0), above(1, 99)),
            new Spec("mendedThen", 0, with(ahead), (x, a) -> x.mendedThen(a[0]), below(0, 0), above(0, 99)),
            new Spec("again", 0, with(them, about(0, 1)), (x, a) -> x.again(a[0], a[1]), noThing(0), other(1, 1)),
            new Spec("mourned", 0, with(about(0, 1)), (x, a) -> x.mourned(a[0]), other(0, 1)),
            new Spec("first", 0, with(about(0, 1)), (x, a) -> x.first(a[0]), other(0, 1)),
            new Spec("menders", 0, with(them), (x, a) -> x.menders(a[0]), noThing(0)),
            new Spec("together", 0, with(them), (x, a) -> x.together(a[0]), new Rule(-1, a -> a[0] < -1 || a[0] >= things)),
            new Spec("lost", 0, with(), (x, a) -> x.lost()),
            new Spec("breaker", 0, with(them), (x, a) -> x.breaker(a[0]), noThing(0), state(a -> breakers[a[0]] != -9)),
            new Spec("bestSays", 0, with(ahead), (x, a) -> x.bestSays(a[0]), below(0, 0), above(0, 99)),
            new Spec("confessions", 0, with(), (x, a) -> x.confessions()),
            new Spec("learns", 0, with(ahead), (x, a) -> x.learns(a[0]), below(0, 0), above(0, 99)),
            new Spec("missed", 0, with(ahead), (x, a) -> x.missed(a[0]), below(0, 0), above(0, 99)),
            new Spec("due", OF_DUE, with(ones), (x, a) -> x.due(a[0]), noPerson(0)),
            new Spec("ring", 0, with(ones, about(0, 1)), (x, a) -> x.ring(a[0], a[1]), noPerson(0), other(1, 1)),
            new Spec("arranged", 0, with(about(0, 2)), (x, a) -> x.arranged(a[0]), other(0, 2)),
        };
    }

    private static Spec[] weighing() {
        int[] ones = upTo(people);
        int[] them = upTo(things);
        return new Spec[] {
            new Spec("two", 0, with(ones, ones, about(0, 99)), (x, a) -> x.two(a[0], a[1], a[2]),
                noPerson(0), noPerson(1), new Rule(-1, a -> a[0] == a[1]), below(2, 0), above(2, 99)),
            new Spec("storm", OF_LONGS, with(them, new int[] {-1, 0, 7, 8, FAR[0], FAR[3]}, new int[] {1, 2, 20, 21, 0, FAR[0], FAR[3]},
                new int[] {-1, 0, 1, 2, FAR[0], FAR[3]}), (x, a) -> x.storm(a[0], a[1], a[2], a[3]),
                noThing(0), below(1, 0), below(2, 2), above(1, 7), above(2, 20), other(3, 1)),
            new Spec("mean", OF_LONGS, with(about(0, 1)), (x, a) -> x.mean(a[0]), other(0, 1)),
            new Spec("whatIs", 0, with(them, about(0, 1)), (x, a) -> x.whatIs(a[0], a[1]), noThing(0), other(1, 1)),
            new Spec("lots", 0, with(about(1, 20), about(0), about(0, 1)), (x, a) -> x.lots(a[0], a[1], a[2]),
                below(0, 1), above(0, 20), other(2, 1), state(a -> people == 0)),
            new Spec("count", 0, with(new int[] {-1, 8, 9, 10, 15, 17, 18, FAR[0], FAR[3]}), (x, a) -> x.count(a[0])),
        };
    }

    // ---- each call with all of them ----

    private static void combine(Spec spec) {
        C.about(spec.name + " in \"" + place.lane + "\"");
        int[] at = new int[spec.values.length];
        int[] a = new int[at.length];
        do {
            for (int i = 0; i < a.length; i++) {
                a[i] = spec.values[i][at[i]];
            }
            hold(spec, a);
        } while (next(at, spec.values));
    }

    private static boolean next(int[] at, int[][] values) {
        for (int i = at.length - 1; i >= 0; i--) {
            at[i]++;
            if (at[i] < values[i].length) {
                return true;
            }
            at[i] = 0;
        }
        return false;
    }

    private static void hold(Spec spec, int[] a) {
        String call = spec.name + Arrays.toString(a);
        MendAnothersBreaking x = place.made();
        int[] counts = Lanes.refusals(x);
        long answer = spec.call.of(x, a);
        int number = spec.number(a);
        if (number == 0) {
            C.holds(call + " is not refused, but " + answer, !isRefusal(answer) || spec.from == OF_DUE && Math.abs(answer) <= 9);
        } else {
            C.due(call, answer, spec.due(number));
            counts[-number]++;
        }
        C.holds("REFUSALS behind " + call, Arrays.equals(counts, Lanes.refusals(x)));
        if (number != 0) {
            C.holds("nothing changes by " + call, leftBehind(place.made()).equals(leftBehind(x)));
        }
    }

    private static boolean isRefusal(long answer) {
        return answer >= -6 && answer < 0 || answer > OF_DUE && answer <= OF_DUE + 6 || answer > OF_LONGS;
    }

    /** What there is, what the ROW and the letters are, what THE IMAGE is. */
    private static List<Long> leftBehind(MendAnothersBreaking x) {
        List<Long> all = Lanes.seen(x);
        all.add(x.count(1) == 0 ? 0L : x.whatIs(0, 1));
        all.add((long) x.judge());
        all.add((long) x.lane());
        all.add((long) x.on());
        all.addAll(Lanes.seen(x));
        return all;
    }

    // ---- ROOM: what is full ----

    private static void full() {
        C.about("96 letters");
        MendAnothersBreaking x = new MendAnothersBreaking();
        Lanes.letters(x, "d01;".repeat(24));
        for (int c : new int[] {0, 59, 255, 256, Integer.MAX_VALUE}) {
            C.due("letter(" + c + ")", x.letter(c), -6);
        }
        C.due("letter(-1)", x.letter(-1), -4);
        C.due("count(16)", x.count(16), 5);
        C.due("count(14)", x.count(14), 1);
        C.due("lane(), as it was", x.lane(), 24);
        C.about("16 in the ROW");
        for (int i = 0; i < 16; i++) {
            C.due("row(0)", x.row(0), i + 1);
        }
        for (int v : new int[] {0, 50, 99, 100, Integer.MAX_VALUE}) {
            C.due("row(" + v + ")", x.row(v), -6);
        }
        C.due("row(-1)", x.row(-1), -4);
        C.due("count(16)", x.count(16), 10);
        C.due("count(14)", x.count(14), 2);
        C.due("judge(), as it was", x.judge(), -9);
        C.due("row(0), room again", x.row(0), 1);
    }
}
