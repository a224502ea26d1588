/** The edges that the document names of an object, KINDS, MAY MEND, a DAY, and of the calls that tell and do (promises 1 to 13). */
public final class DayEdgesTest {
    private static final String KINDS = "tcgwkl";
    /** By KIND, then by FIGURE; the TOOL's OWNER has SKILL 4. */
    private static final int[][] HARD = {
        {0, 1, 2, 3, 4, 5, 6, 7, 8, 9},
        {0, 0, 1, 1, 2, 2, 3, 3, 4, 4},
        {0, 1, 2, 3, 4, 5, 6, 7, 8, 9},
        {1, 2, 3, 4, 5, 6, 7, 8, 9, 9},
        {2, 3, 4, 5, 6, 7, 8, 9, 9, 9},
        {1, 2, 3, 4, 5, 6, 7, 8, 9, 9}};
    private static final int[][] ODD = {
        {0, 0, 0, 0, 0, 0, 0, 0, 0, 0},
        {0, 0, 0, 0, 0, 0, 0, 0, 0, 0},
        {1, 1, 1, 1, 1, 1, 1, 1, 1, 1},
        {2, 2, 2, 2, 2, 2, 2, 2, 2, 2},
        {0, 0, 0, 0, 1, 1, 1, 1, 2, 2},
        {1, 1, 1, 1, 1, 1, 1, 1, 1, 1}};
    private static final int[][] EVEN = {
        {1, 1, 1, 1, 1, 1, 1, 1, 1, 1},
        {0, 0, 0, 0, 0, 0, 0, 0, 0, 0},
        {2, 2, 2, 2, 2, 2, 2, 2, 2, 2},
        {3, 3, 3, 3, 3, 3, 3, 3, 3, 3},
        {1, 1, 1, 1, 2, 2, 2, 2, 3, 3},
        {1, 1, 1, 1, 1, 1, 1, 1, 1, 1}};
    private static final Check C = new Check();

    public static void main(String[] args) {
        newObject();
        lastCall();
        hardAndWear();
        ableOwner();
        wearOfDays();
        nineAndTen();
        brokenDoNotWear();
        skillEnough();
        mendedOfADay();
        mostMended();
        people();
        things();
        breaking();
        saying();
        mending();
        changing();
        days();
        C.end();
    }

    private static MendAnothersBreaking told(String text) {
        return Lanes.told(C, text);
    }

    private static void newObject() {
        C.about("nobody, no THINGS, DAY 0");
        MendAnothersBreaking x = new MendAnothersBreaking();
        C.due("days(1)", x.days(1), 0);
        C.due("DAY", x.count(2), 1);
        C.due("wholeThen(99)", x.wholeThen(99), 0);
        C.due("mendedThen(99)", x.mendedThen(99), 0);
        C.due("mourned(0)", x.mourned(0), 0);
        C.due("all of none are WHOLE", x.mourned(1), 0);
        C.due("first(0)", x.first(0), -9);
        C.due("first(1)", x.first(1), -9);
        C.due("together(-1)", x.together(-1), 0);
        C.due("together(0)", x.together(0), -1);
        C.due("lost()", x.lost(), 0);
        C.due("bestSays(9)", x.bestSays(9), -9);
        C.due("confessions()", x.confessions(), 0);
        C.due("learns(9)", x.learns(9), -9);
        C.due("missed(9)", x.missed(9), -9);
        C.due("arranged(0)", x.arranged(0), 0);
        C.due("arranged(1)", x.arranged(1), -9);
        C.due("arranged(2)", x.arranged(2), -9);
        C.due("mean(0)", x.mean(0), 0);
        C.due("mean(1)", x.mean(1), 1);
        C.due("judge()", x.judge(), -9);
        C.due("clear()", x.clear(), 0);
        C.due("lots(1, 1, 0)", x.lots(1, 1, 0), -3);
        C.due("on()", x.on(), -3);
        C.due("count(4)", x.count(4), 0);
        C.due("row(0)", x.row(0), 1);
        C.due("judge() of none WHOLE", x.judge(), -9);
        C.due("image()", x.image(), 1);
        C.due("another object is another", new MendAnothersBreaking().on(), -3);
    }

    private static void lastCall() {
        C.about("at most 512 calls");
        MendAnothersBreaking x = new MendAnothersBreaking();
        for (int i = 0; i < 5; i++) {
            C.due("97 calls", Lanes.tell(x, "d01;".repeat(24)), 24);
        }
        for (int call = 486; call < 512; call++) {
            C.due("call " + call, x.days(30), 0);
        }
        C.due("call 512", x.count(2), 5 * 24 + 26 * 30);
    }

    private static void hardAndWear() {
        C.about("KINDS: HARD, WEAR on the next DAY");
        for (int next = 1; next <= 2; next++) {
            MendAnothersBreaking x = told("p4;tt00;");
            if (next == 2) {
                x.days(1);
            }
            for (int kind = 0; kind < 6; kind++) {
                for (int figure = 0; figure < 10; figure++) {
                    String what = " of " + KINDS.charAt(kind) + figure;
                    x.turn(0, kind, figure);
                    C.due("HARD" + what, x.thing(0, 5), HARD[kind][figure]);
                    C.due("WEAR" + what, x.thing(0, 6), (next == 2 ? EVEN : ODD)[kind][figure]);
                }
            }
        }
        MendAnothersBreaking last = told("p4;tt00;");
        for (int i = 0; i < 16; i++) {
            last.days(60);
        }
        C.due("DAY 998", last.days(38), 0);
        C.due("on DAY 999", last.thing(0, 6), 0);
        C.due("DAY 999", last.days(1), 0);
        C.due("on DAY 1000, in thought", last.thing(0, 6), 1);
    }

    private static void ableOwner() {
        C.about("a TOOL is HARD 0, if its OWNER has SKILL 5 or more");
        MendAnothersBreaking x = told("p9;p0;tl60;tl61;tw61;");
        for (int skill = 0; skill < 10; skill++) {
            x.skill(1, skill);
            C.due("of an OWNER of SKILL " + skill, x.thing(1, 5), skill >= 5 ? 0 : 7);
            C.due("of another OWNER", x.thing(0, 5), 0);
            C.due("a WHEEL is none", x.thing(2, 5), 7);
        }
    }

    private static void wearOfDays() {
        C.about("a DAY: all WHOLE THINGS WEAR, DAY 1 odd, DAY 2 even");
        for (int kind = 0; kind < 6; kind++) {
            for (int figure = 0; figure < 10; figure++) {
                MendAnothersBreaking x = told("p4;t" + KINDS.charAt(kind) + figure + "0;");
                C.due("0 at first", x.thing(0, 3), 0);
                C.due("days(1)", x.days(1), 1);
                C.due("behind DAY 1: " + KINDS.charAt(kind) + figure, x.thing(0, 3), ODD[kind][figure]);
                C.due("days(1)", x.days(1), 1);
                C.due("behind DAY 2: " + KINDS.charAt(kind) + figure, x.thing(0, 3), ODD[kind][figure] + EVEN[kind][figure]);
            }
        }
    }

    private static void nineAndTen() {
        C.about("whose WEAR would be 10 or more breaks by NOBODY (WEAR 9)");
        for (int kind = 0; kind < 6; kind++) {
            for (int wear = 0; wear < 10; wear++) {
                for (int day = 1; day <= 2; day++) {
                    MendAnothersBreaking x = told("p9;p9;t" + KINDS.charAt(kind) + "90;" + (day == 2 ? "d01;" : "") + "w0" + wear + ";");
                    int then = wear + (day == 2 ? EVEN : ODD)[kind][9];
                    String what = KINDS.charAt(kind) + "9 of WEAR " + wear + " on DAY " + day;
                    C.due("WHOLE: " + what, x.days(1), then < 10 ? 1 : 0);
                    C.due("by NOBODY: " + what, x.thing(0, 4), then < 10 ? -9 : -8);
                    C.due("WEAR: " + what, x.thing(0, 3), Math.min(9, then));
                    C.due("nobody mends it: " + what, x.count(5), 0);
                }
            }
        }
    }

    private static void brokenDoNotWear() {
        C.about("WEAR is more on a DAY, as long as it is WHOLE");
        MendAnothersBreaking x = told("p0;tw00;tw00;tw00;w03;w14;w29;b00;n1;n2;");
        C.due("days(60)", x.days(60), 0);
        C.due("broken by one", x.thing(0, 3), 3);
        C.due("broken by NOBODY", x.thing(1, 3), 4);
        C.due("WEAR 9", x.thing(2, 3), 9);
        C.due("all WEAR", x.count(4), 16);
    }

    private static void skillEnough() {
        C.about("MAY MEND: if his SKILL is HARD or more");
        for (int skill = 0; skill < 10; skill++) {
            for (int figure = 0; figure < 10; figure++) {
                String what = "SKILL " + skill + ", HARD " + figure;
                boolean may = skill >= figure;
                MendAnothersBreaking x = told("p" + skill + ";p0;tt" + figure + "1;b10;");
                C.due("menders(0): " + what, x.menders(0), (may ? 1 : 0) + (figure == 0 ? 2 : 0));
                C.due("wholeThen(1): " + what, x.wholeThen(1), may ? 1 : 0);
                C.due("lost(): " + what, x.lost(), may ? 0 : 1);
                C.due("mends(0, 0): " + what, x.mends(0, 0), may ? 1 : -3);
            }
        }
    }

    private static void mendedOfADay() {
        C.about("a DAY: PEOPLE by numbers, each mends the least THING that he MAY MEND (as it is then)");
        MendAnothersBreaking x = told("p0;p9;p9;p9;tt00;tt10;tt20;tt30;tt40;b31;b12;b23;b00;n4;w04;w19;");
        C.due("days(1)", x.days(1), 3);
        C.due("0 mends nothing: his own breaking, too HARD", x.person(0, 1), 0);
        C.due("1 mends THING 0", x.person(1, 1), 1);
        C.due("2 mends THING 1", x.person(2, 1), 1);
        C.due("3 mends THING 2", x.person(3, 1), 1);
        C.due("THING 3 is left", x.thing(3, 4), 2);
        C.due("WEAR 0", x.thing(0, 3), 0);
        C.due("WEAR 0", x.thing(1, 3), 0);
        C.due("days(1)", x.days(1), 4);
        C.due("1 mends THING 3", x.person(1, 1), 2);
        C.due("the others mend nothing more", x.count(5), 4);
        MendAnothersBreaking worn = told("p9;p9;tw00;tw00;w19;b10;");
        C.due("what breaks on this DAY is not mended", worn.days(1), 1);
        C.due("what is mended on this DAY has WEAR 0", worn.thing(0, 3), 0);
        C.due("by NOBODY", worn.thing(1, 4), -8);
        MendAnothersBreaking alone = told("p9;tt00;b00;");
        C.due("one alone mends nothing", alone.days(60), 0);
    }

    /** No 512 calls lead so far, so these are more; the document tells of 999 nevertheless. */
    private static void mostMended() {
        C.about("MENDED (0 .. 999)");
        MendAnothersBreaking x = told("p0;p0;tc00;");
        for (int i = 1; i <= 998; i++) {
            x.breaks(0, 0);
            x.mends(1, 0);
        }
        C.due("998", x.person(1, 1), 998);
        x.breaks(0, 0);
        C.due("one more in mind", x.mendedThen(1), 1);
        C.due("mends(1, 0)", x.mends(1, 0), 1);
        C.due("999", x.person(1, 1), 999);
        x.breaks(0, 0);
        C.due("none more in mind", x.mendedThen(1), 0);
        C.due("mends(1, 0) nevertheless", x.mends(1, 0), 1);
        C.due("999", x.person(1, 1), 999);
        x.breaks(0, 0);
        C.due("on a DAY, too", x.days(1), 1);
        C.due("999", x.person(1, 1), 999);
        C.due("all MENDED", x.count(5), 999);
        x.breaks(1, 0);
        C.due("another", x.days(1), 1);
        C.due("all MENDED", x.count(5), 1000);
    }

    private static void people() {
        C.about("promise 4");
        MendAnothersBreaking x = told("p0;p9;tt00;tt00;tt00;tt00;tt00;tt00;tt00;tt00;tt00;");
        C.due("SKILL 0", x.person(0, 0), 0);
        C.due("SKILL 9", x.person(1, 0), 9);
        C.due("MENDED 0 at first", x.person(0, 1), 0);
        C.due("he owns nine", x.person(0, 2), 9);
        C.due("he owns none", x.person(1, 2), 0);
        C.due("by him none", x.person(1, 3), 0);
        for (int thing = 0; thing < 9; thing++) {
            x.breaks(1, thing);
            C.due("by him", x.person(1, 3), thing + 1);
        }
        C.due("by him none", x.person(0, 3), 0);
        C.due("broken ones are owned", x.person(0, 2), 9);
        C.due("person(2, 0)", x.person(2, 0), -1);
        C.due("person(-1, 0)", x.person(-1, 0), -1);
        C.due("person(2, 4)", x.person(2, 4), -1);
        C.due("person(1, 4)", x.person(1, 4), -2);
        C.due("person(1, -1)", x.person(1, -1), -2);
    }

    private static void things() {
        C.about("promise 5");
        MendAnothersBreaking x = told("p0;p0;p0;p0;p0;p5;tt00;tl95;b50;");
        C.due("KIND t", x.thing(0, 0), 0);
        C.due("KIND l", x.thing(1, 0), 5);
        C.due("FIGURE 0", x.thing(0, 1), 0);
        C.due("FIGURE 9", x.thing(1, 1), 9);
        C.due("OWNER 0", x.thing(0, 2), 0);
        C.due("OWNER 5", x.thing(1, 2), 5);
        C.due("by the last", x.thing(0, 4), 5);
        C.due("WHOLE", x.thing(1, 4), -9);
        C.due("rusts(1)", x.rusts(1), 0);
        C.due("by NOBODY", x.thing(1, 4), -8);
        C.due("HARD 0", x.thing(1, 5), 0);
        C.due("were it WHOLE", x.thing(1, 6), 1);
        C.due("thing(2, 0)", x.thing(2, 0), -1);
        C.due("thing(-1, 0)", x.thing(-1, 0), -1);
        C.due("thing(2, 7)", x.thing(2, 7), -1);
        C.due("thing(1, 7)", x.thing(1, 7), -2);
        C.due("thing(1, -1)", x.thing(1, -1), -2);
    }

    private static void breaking() {
        String nine = "p0;p0;" + "tt00;".repeat(9);
        C.about("promise 6");
        MendAnothersBreaking x = told(nine);
        C.due("all", x.count(3), 511);
        for (int thing = 8; thing >= 0; thing--) {
            C.due("breaks(1, " + thing + ")", x.breaks(1, thing), thing);
            C.due("once more", x.breaks(1, thing), -3);
            C.due("by another", x.breaks(0, thing), -3);
        }
        C.due("none", x.count(3), 0);
        C.due("breaks(2, 0): nobody is told ahead of WHOLE", x.breaks(2, 0), -1);
        C.due("breaks(0, 9)", x.breaks(0, 9), -1);
        C.due("count(13)", x.count(13), 18);
        C.about("promise 7");
        MendAnothersBreaking y = told(nine);
        for (int thing = 8; thing >= 0; thing--) {
            C.due("rusts(" + thing + ")", y.rusts(thing), thing);
            C.due("once more", y.rusts(thing), -3);
        }
        C.due("all are mourned", y.mourned(0), 511);
        C.due("rusts(9)", y.rusts(9), -1);
        C.due("rusts(-1)", y.rusts(-1), -1);
        C.due("count(13)", y.count(13), 9);
    }

    private static void saying() {
        C.about("promise 8");
        MendAnothersBreaking x = told("p9;p9;p9;p9;p9;p9;tt95;tt95;n0;");
        C.due("all others may mend it", x.says(5, 0), 5);
        C.due("it is his", x.person(5, 3), 1);
        C.due("once more", x.says(5, 0), -3);
        C.due("of a WHOLE one", x.says(0, 1), -3);
        C.due("of one broken by one", x.says(0, 0), -3);
        C.due("says(6, 1)", x.says(6, 1), -1);
        C.due("says(0, 2)", x.says(0, 2), -1);
        C.due("WHOLE behind one DAY", x.days(1), 2);
        MendAnothersBreaking alone = told("p9;tt00;n0;");
        C.due("one alone", alone.says(0, 0), 0);
        C.due("it stays", alone.days(60), 0);
        MendAnothersBreaking weak = told("p8;p8;tt90;n0;");
        C.due("none has SKILL", weak.says(0, 0), 0);
        MendAnothersBreaking strong = told("p8;p9;tt90;n0;");
        C.due("he alone has SKILL", strong.says(1, 0), 0);
        MendAnothersBreaking tool = told("p5;p0;tl90;n0;");
        C.due("an able OWNER's TOOL", tool.says(0, 0), 1);
    }

    private static void mending() {
        C.about("promise 9");
        MendAnothersBreaking x = told("p9;p9;p8;tt90;tt90;tt90;w05;w15;b10;n1;");
        C.due("himself", x.mends(1, 0), -3);
        C.due("below HARD", x.mends(2, 0), -3);
        C.due("by NOBODY", x.mends(0, 1), -3);
        C.due("WHOLE", x.mends(0, 2), -3);
        C.due("mends(3, 0)", x.mends(3, 0), -1);
        C.due("mends(-1, 0)", x.mends(-1, 0), -1);
        C.due("mends(0, 3)", x.mends(0, 3), -1);
        C.due("mends(0, -1)", x.mends(0, -1), -1);
        C.due("WEAR as it was", x.thing(0, 3), 5);
        C.due("MENDED none", x.count(5), 0);
        C.due("the OWNER himself", x.mends(0, 0), 2);
        C.due("WEAR 0", x.thing(0, 3), 0);
        C.due("MENDED one", x.person(0, 1), 1);
        C.due("once more", x.mends(0, 0), -3);
        C.due("DAY as it was", x.count(2), 0);
        C.due("WEAR of another as it was", x.thing(1, 3), 5);
    }

    private static void changing() {
        C.about("promises 10, 11, 12: what it was");
        MendAnothersBreaking x = told("p0;tt00;");
        for (int v = 0; v < 10; v++) {
            C.due("wears(0, " + v + ")", x.wears(0, v), Math.max(0, v - 1));
            C.due("skill(0, " + v + ")", x.skill(0, v), Math.max(0, v - 1));
            C.due("turn(0, " + v % 6 + ", " + v + ")", x.turn(0, v % 6, v), v == 0 ? 0 : 10 * ((v - 1) % 6) + v - 1);
        }
        for (int v : new int[] {-1, 10}) {
            int due = v < 0 ? -4 : -6;
            C.due("wears(0, " + v + ")", x.wears(0, v), due);
            C.due("skill(0, " + v + ")", x.skill(0, v), due);
            C.due("turn(0, 0, " + v + ")", x.turn(0, 0, v), due);
            C.due("turn(0, 6, " + v + ")", x.turn(0, 6, v), -2);
            C.due("turn(0, -1, " + v + ")", x.turn(0, -1, v), -2);
            C.due("wears(1, " + v + ")", x.wears(1, v), -1);
            C.due("skill(1, " + v + ")", x.skill(1, v), -1);
            C.due("turn(1, 6, " + v + ")", x.turn(1, 6, v), -1);
        }
        C.due("WEAR", x.thing(0, 3), 9);
        C.due("SKILL", x.person(0, 0), 9);
        C.due("KIND", x.thing(0, 0), 3);
        C.due("FIGURE", x.thing(0, 1), 9);
        C.due("WHOLE with WEAR 9", x.thing(0, 4), -9);
        C.due("rusts(0)", x.rusts(0), 0);
        C.due("a broken one's WEAR", x.wears(0, 2), 9);
        C.due("a broken one's KIND", x.turn(0, 1, 0), 39);
        C.due("still broken by NOBODY", x.thing(0, 4), -8);
        C.due("WEAR stays when it turns", x.thing(0, 3), 2);
    }

    private static void days() {
        C.about("promise 13");
        MendAnothersBreaking x = told("p0;tc00;");
        C.due("days(0)", x.days(0), -4);
        C.due("days(61)", x.days(61), -6);
        C.due("DAY", x.count(2), 0);
        C.due("days(60)", x.days(60), 1);
        C.due("days(1)", x.days(1), 1);
        C.due("DAY", x.count(2), 61);
        for (int i = 0; i < 15; i++) {
            C.due("days(60)", x.days(60), 1);
        }
        C.due("DAY", x.count(2), 961);
        C.due("days(39) to 1000", x.days(39), -6);
        C.due("days(60)", x.days(60), -6);
        C.due("DAY", x.count(2), 961);
        C.due("days(37)", x.days(37), 1);
        C.due("days(2) to 1000", x.days(2), -6);
        C.due("days(1) to 999", x.days(1), 1);
        C.due("days(1) to 1000", x.days(1), -6);
        C.due("days(0)", x.days(0), -4);
        C.due("DAY", x.count(2), 999);
        C.due("count(16)", x.count(16), 5);
        C.due("count(14)", x.count(14), 2);
    }
}
