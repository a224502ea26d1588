import java.math.BigInteger;

/** The edges that the document names of storms, fractions, the ROW, lanes by lot, THE IMAGE and counts (promises 32 to 41). */
public final class RowEdgesTest {
    private static final long LONGS = 4000000000000000000L;
    private static final int[] SEEDS = {0, 1, -1, 255, 256, -256, Integer.MAX_VALUE, Integer.MIN_VALUE, Integer.MIN_VALUE + 1, -1013904223,
        1234567890, -987654321};
    private static final Check C = new Check();

    public static void main(String[] args) {
        storm();
        stormOfFewDays();
        mean();
        whatIs();
        whatIsOfBroken();
        row();
        judge();
        clear();
        lotsOfOne();
        lotsOfThree();
        lotsOfTenDays();
        lotsRefused();
        image();
        imageIsNotAll();
        count();
        refusalsCounted();
        C.end();
    }

    private static MendAnothersBreaking told(String text) {
        return Lanes.told(C, text);
    }

    private static void fraction(String what, long above, long below, long dueAbove, long dueBelow) {
        C.due(what + ", above the line", above, dueAbove);
        C.due(what + ", below the line", below, dueBelow);
    }

    private static void storm(String what, MendAnothersBreaking x, int[] a, long dueAbove, long dueBelow) {
        fraction(what, x.storm(a[0], a[1], a[2], 0), x.storm(a[0], a[1], a[2], 1), dueAbove, dueBelow);
    }

    private static long power(long base, int n) {
        long all = 1;
        for (int i = 0; i < n; i++) {
            all *= base;
        }
        return all;
    }

    private static void storm() {
        C.about("promise 32");
        MendAnothersBreaking x = told("p0;tl00;tl00;tl00;tc00;tt00;tt00;w12;w23;w44;w55;");
        storm("none in 7 DAYS breaks a CUP: 1 by 1", x, new int[] {3, 7, 20}, 1, 1);
        for (int t = 2; t <= 20; t++) {
            long calm = t - 1;
            // A TOOL's WEAR is 7 and one more for each storm: two of 7 may be.
            BigInteger most = BigInteger.valueOf(power(calm, 5) * (calm * calm + 7 * calm + 21));
            BigInteger all = BigInteger.valueOf(power(t, 7));
            BigInteger divisor = most.gcd(all);
            storm("two storms in 7 DAYS", x, new int[] {0, 7, t}, most.divide(divisor).longValue(), all.divide(divisor).longValue());
            storm("no storm in 7 DAYS", x, new int[] {1, 7, t}, power(calm, 7), power(t, 7));
            // A THING wears on three of 7 DAYS; from WEAR 4 it breaks by storms on all of them.
            storm("three storms", x, new int[] {4, 7, t}, power(t, 3) - 1, power(t, 3));
            storm("broken without storm: 0 by 1", x, new int[] {2, 7, t}, 0, 1);
        }
        C.due("the DAYS do not go by", x.count(2), 0);
        C.due("all is WHOLE", x.count(3), 63);
    }

    private static void stormOfFewDays() {
        C.about("promise 32: few DAYS, refused");
        MendAnothersBreaking x = told("p9;p0;tl01;w09;tl01;b01;tl01;n2;tw01;w34;");
        storm("no DAY, WHOLE", x, new int[] {0, 0, 2}, 1, 1);
        storm("no DAY, broken by one", x, new int[] {1, 0, 20}, 0, 1);
        storm("no DAY, broken by NOBODY", x, new int[] {2, 0, 20}, 0, 1);
        storm("one DAY breaks it", x, new int[] {0, 1, 20}, 0, 1);
        storm("nobody mends it: HARD 1", x, new int[] {1, 7, 2}, 0, 1);
        storm("a WHEEL of WEAR 4: a storm on DAY 1 leaves 8", x, new int[] {3, 1, 2}, 1, 1);
        storm("6 or 8, then 3 or 6 more", x, new int[] {3, 2, 3}, 4, 9);
        MendAnothersBreaking y = told("p9;p0;tl01;b10;");
        // WEAR 0 on DAY 1, then 6 and one more for each storm: three of 6 may be, by 1 + 6 + 15 + 20 of 64.
        storm("mended on DAY 1", y, new int[] {0, 7, 2}, 21, 32);
        MendAnothersBreaking z = told("p9;p0;tw01;tl01;w19;b10;");
        storm("all of one DAY", z, new int[] {1, 1, 2}, 0, 1);
        C.due("storm(4, 0, 2, 0)", x.storm(4, 0, 2, 0), LONGS + 1);
        C.due("storm(-1, 0, 2, 0)", x.storm(-1, 0, 2, 0), LONGS + 1);
        C.due("storm(0, -1, 2, 0)", x.storm(0, -1, 2, 0), LONGS + 4);
        C.due("storm(0, 0, 1, 0)", x.storm(0, 0, 1, 0), LONGS + 4);
        C.due("storm(0, 8, 2, 0)", x.storm(0, 8, 2, 0), LONGS + 6);
        C.due("storm(0, 0, 21, 0)", x.storm(0, 0, 21, 0), LONGS + 6);
        C.due("storm(0, 8, 1, 0)", x.storm(0, 8, 1, 0), LONGS + 4);
        C.due("storm(0, -1, 21, 0)", x.storm(0, -1, 21, 0), LONGS + 4);
        C.due("storm(0, 0, 2, 2)", x.storm(0, 0, 2, 2), LONGS + 2);
        C.due("storm(0, 0, 2, -1)", x.storm(0, 0, 2, -1), LONGS + 2);
        C.due("storm(0, 0, 21, 2)", x.storm(0, 0, 21, 2), LONGS + 6);
    }

    private static void mean() {
        C.about("promise 33");
        MendAnothersBreaking x = told("p0;" + "tt00;".repeat(9));
        fraction("all WEAR 0", x.mean(0), x.mean(1), 0, 1);
        C.due("wears(8, 1)", x.wears(8, 1), 0);
        fraction("1 of nine", x.mean(0), x.mean(1), 1, 9);
        C.due("wears(8, 3)", x.wears(8, 3), 1);
        fraction("3 of nine", x.mean(0), x.mean(1), 1, 3);
        for (int thing = 0; thing < 9; thing++) {
            x.wears(thing, 9);
        }
        fraction("all WEAR 9", x.mean(0), x.mean(1), 9, 1);
        C.due("wears(0, 8)", x.wears(0, 8), 9);
        fraction("80 of nine", x.mean(0), x.mean(1), 80, 9);
        for (int thing = 0; thing < 9; thing++) {
            x.rusts(thing);
            C.due("of those that are WHOLE", x.mean(0), thing < 8 ? 9 : 0);
            C.due("below the line", x.mean(1), 1);
        }
        fraction("no THINGS", told("p0;").mean(0), told("p0;").mean(1), 0, 1);
        C.due("mean(2)", x.mean(2), LONGS + 2);
        C.due("mean(-1)", x.mean(-1), LONGS + 2);
    }

    private static void rows(MendAnothersBreaking x, int... numbers) {
        x.clear();
        for (int i = 0; i < numbers.length; i++) {
            C.due("row(" + numbers[i] + ")", x.row(numbers[i]), i + 1);
        }
    }

    private static void whatIs() {
        C.about("promise 34");
        MendAnothersBreaking x = told("p4;tl00;tk40;tk30;");
        C.due("no ROW", x.whatIs(0, 0), 63);
        C.due("no ROW", x.whatIs(0, 1), 1023);
        rows(x, 0, 1, 2, 3, 4, 5, 6, 7, 8, 9, 9, 9, 9, 9, 9, 9);
        C.due("a full ROW of a TOOL", x.whatIs(0, 0), 32);
        C.due("of any FIGURE", x.whatIs(0, 1), 1023);
        C.due("row(9)", x.row(9), -6);
        rows(x, 0, 1, 2, 3, 4, 5, 6, 7, 8, 9, 9, 9, 9, 9, 9, 8);
        C.due("but the last", x.whatIs(0, 0), 0);
        C.due("but the last", x.whatIs(0, 1), 0);
        rows(x, 0, 0, 1);
        C.due("of FIGURE 0: t, k", x.whatIs(0, 0), 1 + 16);
        C.due("of FIGURE 4: t", x.whatIs(1, 0), 1);
        C.due("of FIGURE 3: t, k", x.whatIs(2, 0), 1 + 16);
        C.due("a CLOCK of FIGURES 0 to 3", x.whatIs(1, 1), 15);
        rows(x, 0, 1, 3);
        C.due("g, k", x.whatIs(1, 0), 4 + 16);
        C.due("a CLOCK of FIGURES 4 to 7", x.whatIs(2, 1), 16 + 32 + 64 + 128);
        rows(x, 0, 2, 5);
        C.due("a CLOCK of FIGURES 8, 9", x.whatIs(2, 1), 256 + 512);
        C.due("w", x.whatIs(2, 0), 8);
        rows(x, 0);
        C.due("one number", x.whatIs(0, 0), 63);
        rows(x, 1);
        C.due("one number", x.whatIs(0, 0), 0);
        rows(x, 99);
        C.due("99 is no WEAR", x.whatIs(0, 1), 0);
        C.due("the ROW stays", x.count(6), 1);
        C.due("whatIs(3, 0)", x.whatIs(3, 0), -1);
        C.due("whatIs(-1, 2)", x.whatIs(-1, 2), -1);
        C.due("whatIs(0, 2)", x.whatIs(0, 2), -2);
        C.due("whatIs(0, -1)", x.whatIs(0, -1), -2);
        C.due("it is what it was", 10 * x.thing(1, 0) + x.thing(1, 1), 44);
    }

    private static void whatIsOfBroken() {
        C.about("promise 34: of what is broken");
        MendAnothersBreaking x = told("p4;p4;tt90;tt30;w05;w15;n0;b11;");
        rows(x, 5, 5, 5, 5);
        C.due("by NOBODY: any KIND", x.whatIs(0, 0), 63);
        C.due("by NOBODY: any FIGURE", x.whatIs(0, 1), 1023);
        rows(x, 5, 0, 1, 1);
        C.due("mended on DAY 1, as a THING", x.whatIs(1, 0), 1);
        C.due("mended on DAY 1: FIGURES 0 to 4", x.whatIs(1, 1), 31);
        rows(x, 5, 5, 5, 5);
        C.due("mended by nobody: FIGURES 5 to 9", x.whatIs(1, 1), 1023 - 31);
        C.due("too HARD as a CLOCK alone", x.whatIs(1, 0), 16);
    }

    private static void row() {
        C.about("promise 35");
        MendAnothersBreaking x = new MendAnothersBreaking();
        C.due("none", x.count(6), 0);
        C.due("row(-1)", x.row(-1), -4);
        C.due("row(100)", x.row(100), -6);
        C.due("none", x.count(6), 0);
        for (int i = 1; i <= 16; i++) {
            C.due("row", x.row(i % 2 == 0 ? 0 : 99), i);
        }
        C.due("17", x.row(0), -6);
        C.due("17, below", x.row(-1), -4);
        C.due("16", x.count(6), 16);
        C.due("clear()", x.clear(), 16);
        C.due("row(0)", x.row(0), 1);
    }

    private static void judge() {
        C.about("promise 36");
        String lane = "p9;p0;tl01;tl01;tc00;w19;b12;";
        int[] so = {2, 2, 2, 2, 2, 2, 2, 2, 2, 2, 1, 1, 1, 1, 1, 1};
        MendAnothersBreaking x = told(lane);
        C.due("none", x.judge(), -9);
        rows(x, so);
        C.due("all sixteen", x.judge(), -9);
        C.due("the ROW has none then", x.count(6), 0);
        for (int place = 0; place < 16; place++) {
            int[] numbers = so.clone();
            for (int i = place; i < 16; i += 2) {
                numbers[i] += place % 2 == 0 ? 1 : -1;
            }
            MendAnothersBreaking each = told(lane);
            rows(each, numbers);
            C.due("the first that is not so", each.judge(), place);
            C.due("the ROW has none then", each.count(6), 0);
        }
        rows(x, 99);
        C.due("99", x.judge(), 0);
        C.due("none again", x.judge(), -9);
        C.due("DAY", x.count(2), 0);
        MendAnothersBreaking none = new MendAnothersBreaking();
        rows(none, 0, 0, 1);
        C.due("no THINGS", none.judge(), 2);
    }

    private static void clear() {
        C.about("promise 37");
        MendAnothersBreaking x = told("p9;tc00;");
        C.due("none", x.clear(), 0);
        for (int size = 0; size <= 16; size++) {
            for (int i = 0; i < size; i++) {
                x.row(7);
            }
            C.due("clear()", x.clear(), size);
            C.due("count(6)", x.count(6), 0);
        }
        x.row(1);
        C.due("nothing is left of it", x.judge(), -9);
    }

    /** DRAWS by the document's words, in numbers that do not wrap around. */
    private static int[] draws(int z, int below, int many) {
        BigInteger int32 = BigInteger.TWO.pow(32);
        BigInteger seed = BigInteger.valueOf(z);
        int[] drawn = new int[many];
        for (int i = 0; i < many; i++) {
            seed = seed.multiply(BigInteger.valueOf(1664525)).add(BigInteger.valueOf(1013904223)).mod(int32);
            BigInteger unsigned = seed.testBit(31) ? seed.subtract(BigInteger.TWO.pow(31)) : seed;
            drawn[i] = unsigned.divide(BigInteger.valueOf(256)).mod(BigInteger.valueOf(below)).intValue();
        }
        return drawn;
    }

    private static int below(int[] drawn, int from, int to, int bound) {
        int many = 0;
        for (int i = from; i < to; i++) {
            many += drawn[i] < bound ? 1 : 0;
        }
        return many;
    }

    private static void lotsOfOne() {
        C.about("promise 38: one of PEOPLE, nine CUPS; z goes on from lane to lane, and wraps around");
        for (int z : SEEDS) {
            MendAnothersBreaking x = told("p9;" + "tc00;".repeat(9));
            int[] drawn = draws(z, 2, 180);
            for (int n = 1; n <= 20; n++) {
                C.due("lots(" + n + ", " + z + ", 0)", x.lots(n, z, 0), 9 * n - below(drawn, 0, 9 * n, 1));
                C.due("lots(" + n + ", " + z + ", 1)", x.lots(n, z, 1), 0);
            }
            C.due("nothing is broken by it", x.count(3), 511);
            C.due("DAY", x.count(2), 0);
        }
    }

    private static void lotsOfThree() {
        C.about("promise 38: what is broken takes no DRAW; who breaks which by numbers");
        for (int z : SEEDS) {
            // A CUP of HARD 4 is mended by 0 alone; THINGS 0, 2 are broken already.
            MendAnothersBreaking x = told("p4;p0;tc90;tc90;tc90;tc91;n0;b12;");
            int[] drawn = draws(z, 3, 40);
            int whole = 0;
            int mended = 0;
            for (int n = 1; n <= 20; n++) {
                for (int i = 2 * n - 2; i < 2 * n; i++) {
                    whole += drawn[i] == 0 ? 0 : 1;
                    mended += drawn[i] == 1 ? 1 : 0;
                }
                C.due("lots(" + n + ", " + z + ", 0)", x.lots(n, z, 0), whole + n);
                C.due("lots(" + n + ", " + z + ", 1)", x.lots(n, z, 1), mended + n);
            }
        }
    }

    private static void lotsOfTenDays() {
        C.about("promise 38: 10 DAYS, a TOOL that stays breaks on the last, one mended on DAY 1 does not");
        for (int z : SEEDS) {
            MendAnothersBreaking x = told("p9;p9;tl90;");
            int[] drawn = draws(z, 3, 20);
            C.due("WHOLE", x.lots(20, z, 0), below(drawn, 0, 20, 2));
            C.due("MENDED", x.lots(20, z, 1), below(drawn, 0, 20, 2));
            C.due("days(1)", x.days(1), 1);
            C.due("wears(0, 0)", x.wears(0, 0), 1);
            C.due("from DAY 1", x.lots(20, z, 0), below(drawn, 0, 20, 2));
        }
        MendAnothersBreaking before = told("p9;p9;tc90;b10;d01;");
        C.due("MENDED earlier is none of it", before.lots(20, 7, 1), below(draws(7, 3, 20), 0, 20, 2));
        MendAnothersBreaking nine = told("p9;p9;tc90;tc90;tc90;tc90;tc90;tc90;tc90;tc90;tc90;");
        for (int z : SEEDS) {
            C.due("all nine are mended in 10 DAYS", nine.lots(20, z, 0), 180);
            C.due("MENDED", nine.lots(20, z, 1), below(draws(z, 3, 180), 0, 180, 2));
        }
    }

    private static void lotsRefused() {
        C.about("promise 38: refused");
        MendAnothersBreaking x = told("p9;");
        C.due("no THINGS", x.lots(20, 1, 0), 0);
        C.due("no THINGS", x.lots(1, 1, 1), 0);
        MendAnothersBreaking none = new MendAnothersBreaking();
        for (MendAnothersBreaking each : new MendAnothersBreaking[] {x, none}) {
            C.due("lots(0, 1, 2)", each.lots(0, 1, 2), -4);
            C.due("lots(21, 1, 2)", each.lots(21, 1, 2), -6);
            C.due("lots(20, 1, 2)", each.lots(20, 1, 2), -2);
            C.due("lots(1, 1, -1)", each.lots(1, 1, -1), -2);
        }
        C.due("nobody is there", none.lots(1, 1, 1), -3);
        C.due("nobody is there", none.lots(20, -1, 0), -3);
    }

    private static void image() {
        C.about("promises 39, 40");
        MendAnothersBreaking x = new MendAnothersBreaking();
        C.due("there is none", x.on(), -3);
        C.due("of nobody", x.image(), 0);
        C.due("lane", Lanes.tell(x, "p9;p0;tt00;tw00;b10;"), 5);
        C.due("days(3)", x.days(3), 2);
        C.due("ON", x.on(), 0);
        C.due("PEOPLE", x.count(0), 0);
        C.due("THINGS", x.count(1), 0);
        C.due("MENDED", x.count(5), 0);
        C.due("nobody", x.person(0, 0), -1);
        C.due("lane", Lanes.tell(x, "p4;tc70;"), 2);
        C.due("none of the earlier", x.person(0, 1), 0);
        C.due("WHOLE at first", x.thing(0, 4), -9);
        C.due("WEAR 0 at first", x.thing(0, 3), 0);
        C.due("another", x.image(), 0);
        C.due("days(60)", x.days(60), 1);
        C.due("ON from the last", x.on(), 0);
        C.due("PEOPLE", x.count(0), 1);
        C.due("days(5)", x.days(5), 1);
        C.due("ON as often as wanted", x.on(), 0);
        for (int i = 0; i < 16; i++) {
            x.days(60);
        }
        C.due("days(39)", x.days(39), 1);
        C.due("of DAY 999", x.image(), 999);
        C.due("on()", x.on(), 999);
        C.due("count(13)", x.count(13), 1);
    }

    private static void imageIsNotAll() {
        C.about("THE IMAGE: all that there is, but it, the ROW, letters, REFUSALS");
        MendAnothersBreaking x = told("p9;p5;tt00;tw91;n1;w05;");
        rows(x, 1, 1);
        Lanes.letters(x, "d0");
        C.due("refused", x.rusts(1), -3);
        C.due("image()", x.image(), 0);
        C.due("row(0)", x.row(0), 3);
        Lanes.letters(x, "4;");
        C.due("refused", x.rusts(1), -3);
        x.breaks(1, 0);
        x.days(2);
        x.skill(0, 3);
        x.turn(0, 4, 4);
        x.says(0, 1);
        x.wears(1, 9);
        C.due("on()", x.on(), 0);
        C.due("the ROW stays", x.count(6), 3);
        C.due("letters stay", x.count(7), 4);
        C.due("REFUSALS stay", x.count(13), 2);
        C.due("WHOLE", x.count(3), 1);
        C.due("WEAR", x.thing(0, 3), 5);
        C.due("WEAR", x.thing(1, 3), 0);
        C.due("by NOBODY", x.thing(1, 4), -8);
        C.due("KIND, FIGURE", 10 * x.thing(0, 0) + x.thing(0, 1), 0);
        C.due("SKILL", x.person(0, 0), 9);
        C.due("MENDED", x.person(0, 1), 0);
        C.due("the ROW is as told", x.judge(), 2);
        C.due("letters are as told", x.lane(), 1);
        C.due("from it as then", x.thing(0, 3), 7);
        C.due("DAY", x.count(2), 4);
    }

    private static void count() {
        C.about("promise 41");
        MendAnothersBreaking x = told("p0;p0;p0;p0;p0;p0;" + "tt00;".repeat(9));
        C.due("PEOPLE", x.count(0), 6);
        C.due("THINGS", x.count(1), 9);
        C.due("WHOLE ones", x.count(3), 511);
        C.due("all WEAR", x.count(4), 0);
        for (int thing = 0; thing < 9; thing++) {
            x.wears(thing, 9);
            C.due("all WEAR", x.count(4), 9 * thing + 9);
        }
        for (int thing = 0; thing < 9; thing++) {
            C.due("broken", thing % 2 == 0 ? x.breaks(5, thing) : x.rusts(thing), 8 - thing);
            C.due("WHOLE ones", x.count(3), 511 - ((2 << thing) - 1));
        }
        C.due("all WEAR of broken ones, too", x.count(4), 81);
        C.due("none MENDED", x.count(5), 0);
        C.due("mends(0, 0)", x.mends(0, 0), 1);
        C.due("mends(4, 8)", x.mends(4, 8), 2);
        C.due("all MENDED", x.count(5), 2);
        for (int what : new int[] {-1, 8, 9, 10, 17, 18, -9, 99, Integer.MIN_VALUE, Integer.MAX_VALUE}) {
            C.due("count(" + what + ")", x.count(what), -9);
        }
        for (int what = 11; what <= 16; what++) {
            C.due("count(" + what + ")", x.count(what), 0);
        }
    }

    private static void refusalsCounted() {
        C.about("promise 41: REFUSALS, of due() and of longs, too");
        MendAnothersBreaking x = told("p0;tt00;");
        for (int i = 1; i <= 20; i++) {
            C.due("due(1)", x.due(1), 1000000001);
            C.due("mean(2)", x.mean(2), LONGS + 2);
            C.due("on()", x.on(), -3);
            C.due("storm(0, -1, 2, 0)", x.storm(0, -1, 2, 0), LONGS + 4);
            C.due("storm(0, 0, 21, 0)", x.storm(0, 0, 21, 0), LONGS + 6);
            C.due("storm(1, 0, 2, 0)", x.storm(1, 0, 2, 0), LONGS + 1);
            int[] due = {2 * i, i, i, i, 0, i};
            for (int what = 11; what <= 16; what++) {
                C.due("count(" + what + ")", x.count(what), due[what - 11]);
            }
        }
    }
}
