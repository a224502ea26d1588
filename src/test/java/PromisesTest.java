/** Each promise of the document by small lanes whose answers were worked out by hand. */
public final class PromisesTest {
    private static final long LONG = 4000000000000000000L;
    private static final int DUE = 1000000000;
    /** A GATE behind 6 DAYS has WEAR 9 without a storm, and any storm breaks it: 19 to the 6. */
    private static final long SHARE_WITHOUT_STORM = 47045881;
    private static final Check C = new Check();

    public static void main(String[] args) {
        newObject();
        letters();
        laneForm();
        laneSense();
        laneState();
        people();
        things();
        kinds();
        breaking();
        saying();
        mending();
        changing();
        daysGoBy();
        mendersOfADay();
        inMind();
        againAndMourned();
        firstToBreak();
        menders();
        together();
        lostOnes();
        breaker();
        bestSays();
        confessions();
        learns();
        missed();
        dues();
        rings();
        arranged();
        twos();
        storms();
        means();
        whatItIs();
        rows();
        lotsDrawn();
        images();
        counts();
        C.end();
    }

    private static MendAnothersBreaking told(String text) {
        MendAnothersBreaking x = new MendAnothersBreaking();
        int answer = tell(x, text);
        if (answer < 1) {
            C.due("lane of " + text, answer, 1);
        }
        return x;
    }

    private static int tell(MendAnothersBreaking x, String text) {
        for (int i = 0; i < text.length(); i++) {
            C.due("letter " + i + " of " + text, x.letter(text.charAt(i)), i + 1);
        }
        return x.lane();
    }

    private static void newObject() {
        C.about("promise 1");
        MendAnothersBreaking x = new MendAnothersBreaking();
        for (int what = 0; what <= 7; what++) {
            C.due("count(" + what + ")", x.count(what), 0);
        }
        for (int what = 11; what <= 16; what++) {
            C.due("count(" + what + ")", x.count(what), 0);
        }
        C.due("on()", x.on(), -3);
        C.due("person(0, 0)", x.person(0, 0), -1);
        C.due("thing(0, 0)", x.thing(0, 0), -1);
    }

    private static void letters() {
        C.about("promise 2");
        MendAnothersBreaking x = new MendAnothersBreaking();
        C.due("letter(0)", x.letter(0), 1);
        C.due("letter(255)", x.letter(255), 2);
        C.due("letter(-1)", x.letter(-1), -4);
        C.due("letter(256)", x.letter(256), -6);
        C.due("letter(least)", x.letter(Integer.MIN_VALUE), -4);
        C.due("letter(most)", x.letter(Integer.MAX_VALUE), -6);
        C.due("count(7)", x.count(7), 2);
        for (int i = 3; i <= 96; i++) {
            C.due("letter(112)", x.letter(112), i);
        }
        C.due("letter 97", x.letter(112), -6);
        C.due("letter(-1) without room", x.letter(-1), -4);
        C.due("count(7)", x.count(7), 96);
        C.due("count(14)", x.count(14), 3);
        C.due("count(16)", x.count(16), 3);
        C.due("lane()", x.lane(), -1000);
        C.due("count(7)", x.count(7), 0);
        C.due("letter(112)", x.letter(112), 1);
    }

    private static void laneForm() {
        C.about("promise 3, FAULT of kind 1");
        String[] texts = {"", "x", ";", "0", "p", "p1", "p1;x", "p1;p", "p;", "p:;", "p/;", "p10;", "P1;", "t", "tx", "tp", "tt",
            "tt:", "tt0", "tt0:", "tt00", "tt000;", "tt0;", "b", "b0;", "b00", "b000", "n", "n;", "n00;", "s0;", "s00x", "w0;", "w000",
            "d", "d1;", "d1", "d01", "d010;", "b00;p", "b00;d00;x", "p1;;", "p1; "};
        int[] places = {0, 0, 0, 0, 1, 2, 3, 4, 1, 1, 1, 2, 0, 1, 1, 1, 2,
            2, 3, 3, 4, 4, 3, 1, 2, 3, 3, 1, 1, 2, 2, 3, 2, 3,
            1, 2, 2, 3, 3, 5, 8, 3, 3};
        MendAnothersBreaking x = null;
        for (int i = 0; i < texts.length; i++) {
            if (i % 20 == 0) {
                x = new MendAnothersBreaking();
            }
            C.due("lane of \"" + texts[i] + "\"", tell(x, texts[i]), -1000 - places[i]);
            C.due("count(0)", x.count(0), 0);
            C.due("count(7)", x.count(7), 0);
        }
        MendAnothersBreaking full = new MendAnothersBreaking();
        C.due("lane of 96 letters", tell(full, "d01;".repeat(24)), 24);
        C.due("count(2)", full.count(2), 24);
        C.due("lane of 96 letters that lacks", tell(full, "d01;".repeat(23) + "p1;d"), -1096);
        C.due("lane of 96 letters that lacks one", tell(full, "d01;".repeat(22) + "tt00;p0"), -1095);
        C.due("count(2)", full.count(2), 24);
        for (int what = 11; what <= 16; what++) {
            C.due("no FAULT is counted", full.count(what), 0);
        }
    }

    private static void laneSense() {
        C.about("promise 3, FAULT of kind 2");
        String[] texts = {"b00;", "n0;", "s00;", "w00;", "d00;", "d61;", "d99;", "tt00;", "p0;tt01;", "tt00;p0;", "p0;b00;", "p0;n0;",
            "p0;tt00;b10;", "p0;tt00;b01;", "p0;tt00;b00;b00;", "p0;tt00;b00;n0;", "p0;tt00;n0;n0;", "p0;tt00;n0;b00;", "p0;tt00;s00;",
            "p0;tt00;b00;s00;", "p0;tt00;n0;s10;", "p0;tt00;n0;s01;", "p0;tt00;n0;s00;s00;", "p0;tt00;w10;", "p0;w00;tt00;",
            "p0;p0;p0;p0;p0;p0;p0;", "p0;" + "tt00;".repeat(10), "p0;tt00;d60;b00;", "p0;tt90;b00;d01;b00;"};
        int[] places = {0, 0, 0, 0, 0, 0, 0, 0, 3, 0, 3, 3,
            8, 8, 12, 12, 11, 11, 8,
            12, 11, 11, 15, 8, 3,
            18, 48, 12, 16};
        MendAnothersBreaking x = null;
        for (int i = 0; i < texts.length; i++) {
            if (i % 12 == 0) {
                x = new MendAnothersBreaking();
            }
            C.due("lane of \"" + texts[i] + "\"", tell(x, texts[i]), -2000 - places[i]);
            C.due("nothing comes: count(0)", x.count(0), 0);
            C.due("nothing comes: count(1)", x.count(1), 0);
            C.due("nothing comes: count(2)", x.count(2), 0);
            C.due("count(7)", x.count(7), 0);
        }
        for (int what = 11; what <= 16; what++) {
            C.due("no FAULT is counted", x.count(what), 0);
        }
    }

    private static void laneState() {
        C.about("promise 3");
        MendAnothersBreaking x = new MendAnothersBreaking();
        C.due("first lane", tell(x, "p2;p9;tt10;w05;d02;b10;"), 6);
        C.due("count(2)", x.count(2), 2);
        C.due("thing(0, 3)", x.thing(0, 3), 6);
        C.due("thing(0, 4)", x.thing(0, 4), 1);
        C.due("a lane more", tell(x, "d01;"), 1);
        C.due("mended in it", x.person(0, 1), 1);
        C.due("thing(0, 3)", x.thing(0, 3), 0);
        C.due("with a FAULT", tell(x, "n0;s10;d01;p5;w0"), -1016);
        C.due("nothing of it comes", x.thing(0, 4), -9);
        C.due("with a FAULT", tell(x, "n0;s10;d01;p5;n1;"), -2014);
        C.due("nothing of it comes", x.thing(0, 4), -9);
        C.due("count(0)", x.count(0), 2);
        C.due("count(2)", x.count(2), 3);
        C.due("without", tell(x, "n0;s10;"), 2);
        C.due("thing(0, 4)", x.thing(0, 4), 1);
        C.due("room", tell(x, "p0;p1;p2;p3;"), 4);
        C.due("room", tell(x, "p0;"), -2000);
        C.due("owner", tell(x, "tt05;"), 1);
        C.due("owner", tell(x, "tt06;"), -2000);
        C.due("the wear of a broken THING", tell(x, "n1;w17;"), 2);
        C.due("thing(1, 3)", x.thing(1, 3), 7);
        for (int i = 0; i < 16; i++) {
            x.days(60);
        }
        C.due("count(2)", x.count(2), 963);
        C.due("DAY above 999", tell(x, "d37;"), -2000);
        C.due("DAY above 999", tell(x, "d30;d07;"), -2004);
        C.due("DAY 999", tell(x, "d36;"), 1);
        C.due("count(2)", x.count(2), 999);
        C.due("DAY above 999", tell(x, "d01;"), -2000);
    }

    private static void people() {
        C.about("promise 4");
        MendAnothersBreaking x = told("p7;p4;tt10;tc21;tg30;b10;b02;n1;s11;d01;");
        C.due("person(0, 0)", x.person(0, 0), 7);
        C.due("person(0, 1)", x.person(0, 1), 1);
        C.due("person(0, 2)", x.person(0, 2), 2);
        C.due("person(0, 3)", x.person(0, 3), 0);
        C.due("person(1, 0)", x.person(1, 0), 4);
        C.due("person(1, 1)", x.person(1, 1), 1);
        C.due("person(1, 2)", x.person(1, 2), 1);
        C.due("person(1, 3)", x.person(1, 3), 1);
        C.due("person(2, 0)", x.person(2, 0), -1);
        C.due("person(-1, 0)", x.person(-1, 0), -1);
        C.due("person(2, 9)", x.person(2, 9), -1);
        C.due("person(0, 4)", x.person(0, 4), -2);
        C.due("person(0, -1)", x.person(0, -1), -2);
        C.due("count(11)", x.count(11), 3);
        C.due("count(12)", x.count(12), 2);
    }

    private static void things() {
        C.about("promise 5");
        MendAnothersBreaking x = told("p7;p4;tt10;tc90;tg31;tw80;tk81;tl61;");
        int[][] due = {{0, 1, 0, 0, -9, 1, 0}, {1, 9, 0, 0, -9, 4, 0}, {2, 3, 1, 0, -9, 3, 1},
            {3, 8, 0, 0, -9, 9, 2}, {4, 8, 1, 0, -9, 9, 2}, {5, 6, 1, 0, -9, 7, 1}};
        for (int thing = 0; thing < 6; thing++) {
            for (int what = 0; what < 7; what++) {
                C.due("thing(" + thing + ", " + what + ")", x.thing(thing, what), due[thing][what]);
            }
        }
        C.due("breaks(1, 0)", x.breaks(1, 0), 5);
        C.due("rusts(1)", x.rusts(1), 4);
        C.due("wears(0, 6)", x.wears(0, 6), 0);
        C.due("thing(0, 4)", x.thing(0, 4), 1);
        C.due("thing(0, 3)", x.thing(0, 3), 6);
        C.due("thing(0, 6) though broken", x.thing(0, 6), 0);
        C.due("thing(1, 4)", x.thing(1, 4), -8);
        C.due("thing(6, 0)", x.thing(6, 0), -1);
        C.due("thing(-1, 7)", x.thing(-1, 7), -1);
        C.due("thing(0, 7)", x.thing(0, 7), -2);
        C.due("thing(0, -1)", x.thing(0, -1), -2);
    }

    private static void kinds() {
        C.about("KINDS");
        MendAnothersBreaking x = told("p5;p4;tt00;tt01;");
        int[][] hard = {{0, 1, 4, 7, 8, 9}, {0, 0, 2, 3, 4, 4}, {0, 1, 4, 7, 8, 9}, {1, 2, 5, 8, 9, 9}, {2, 3, 6, 9, 9, 9},
            {1, 2, 5, 8, 9, 9}};
        int[][] odd = {{0, 0, 0, 0, 0, 0}, {0, 0, 0, 0, 0, 0}, {1, 1, 1, 1, 1, 1}, {2, 2, 2, 2, 2, 2}, {0, 0, 1, 1, 2, 2},
            {1, 1, 1, 1, 1, 1}};
        int[][] even = {{1, 1, 1, 1, 1, 1}, {0, 0, 0, 0, 0, 0}, {2, 2, 2, 2, 2, 2}, {3, 3, 3, 3, 3, 3}, {1, 1, 2, 2, 3, 3},
            {1, 1, 1, 1, 1, 1}};
        int[] figures = {0, 1, 4, 7, 8, 9};
        kindsOn(x, hard, odd, figures);
        C.due("days(1)", x.days(1), 2);
        kindsOn(x, hard, even, figures);
        MendAnothersBreaking owners = told("p5;p4;tl90;tl91;");
        C.due("a TOOL of an able owner", owners.thing(0, 5), 0);
        C.due("a TOOL of another", owners.thing(1, 5), 9);
        owners.skill(0, 4);
        owners.skill(1, 5);
        C.due("a TOOL of an owner no longer able", owners.thing(0, 5), 9);
        C.due("a TOOL of an owner able now", owners.thing(1, 5), 0);
    }

    private static void kindsOn(MendAnothersBreaking x, int[][] hard, int[][] wear, int[] figures) {
        for (int kind = 0; kind < 6; kind++) {
            for (int i = 0; i < figures.length; i++) {
                x.turn(1, kind, figures[i]);
                C.due("HARD of kind " + kind + ", figure " + figures[i], x.thing(1, 5), hard[kind][i]);
                C.due("WEAR of kind " + kind + ", figure " + figures[i], x.thing(1, 6), wear[kind][i]);
            }
        }
    }

    private static void breaking() {
        C.about("promise 6");
        MendAnothersBreaking x = told("p5;p4;tt00;tt01;tt00;");
        C.due("breaks(1, 2)", x.breaks(1, 2), 2);
        C.due("breaks(0, 0)", x.breaks(0, 0), 1);
        C.due("thing(2, 4)", x.thing(2, 4), 1);
        C.due("breaks(0, 2)", x.breaks(0, 2), -3);
        C.due("breaks(2, 1)", x.breaks(2, 1), -1);
        C.due("breaks(-1, 1)", x.breaks(-1, 1), -1);
        C.due("breaks(0, 3)", x.breaks(0, 3), -1);
        C.due("breaks(2, 0)", x.breaks(2, 0), -1);
        C.due("breaks(0, -1)", x.breaks(0, -1), -1);
        C.due("count(3)", x.count(3), 2);
        C.about("promise 7");
        C.due("wears(1, 4)", x.wears(1, 4), 0);
        C.due("rusts(1)", x.rusts(1), 0);
        C.due("thing(1, 4)", x.thing(1, 4), -8);
        C.due("WEAR stays", x.thing(1, 3), 4);
        C.due("rusts(1)", x.rusts(1), -3);
        C.due("rusts(0)", x.rusts(0), -3);
        C.due("breaks(0, 1)", x.breaks(0, 1), -3);
        C.due("rusts(3)", x.rusts(3), -1);
        C.due("rusts(-1)", x.rusts(-1), -1);
        C.due("count(13)", x.count(13), 4);
    }

    private static void saying() {
        C.about("promise 8");
        MendAnothersBreaking x = told("p5;p4;p3;tt40;tt40;tt80;tt00;n0;n1;n2;");
        C.due("says(0, 0)", x.says(0, 0), 1);
        C.due("thing(0, 4)", x.thing(0, 4), 0);
        C.due("says(2, 1)", x.says(2, 1), 2);
        C.due("says(1, 2)", x.says(1, 2), 0);
        C.due("says(0, 0)", x.says(0, 0), -3);
        C.due("says(0, 3)", x.says(0, 3), -3);
        C.due("says(3, 2)", x.says(3, 2), -1);
        C.due("says(-1, 2)", x.says(-1, 2), -1);
        C.due("says(0, 4)", x.says(0, 4), -1);
        C.due("says(0, -1)", x.says(0, -1), -1);
    }

    private static void mending() {
        C.about("promise 9");
        MendAnothersBreaking x = told("p5;p4;p3;tt40;tt40;tt40;w06;w17;b20;b01;n2;");
        C.due("mends(2, 0) himself", x.mends(2, 0), -3);
        C.due("mends(0, 0)", x.mends(0, 0), 1);
        C.due("thing(0, 3)", x.thing(0, 3), 0);
        C.due("thing(0, 4)", x.thing(0, 4), -9);
        C.due("person(0, 1)", x.person(0, 1), 1);
        C.due("mends(0, 0) WHOLE", x.mends(0, 0), -3);
        C.due("mends(2, 1) below HARD", x.mends(2, 1), -3);
        C.due("mends(0, 2) by NOBODY", x.mends(0, 2), -3);
        C.due("mends(1, 1) of HARD", x.mends(1, 1), 2);
        C.due("count(5)", x.count(5), 2);
        C.due("mends(3, 2)", x.mends(3, 2), -1);
        C.due("mends(-1, 2)", x.mends(-1, 2), -1);
        C.due("mends(0, 3)", x.mends(0, 3), -1);
        C.due("mends(0, -1)", x.mends(0, -1), -1);
    }

    private static void changing() {
        C.about("promise 10");
        MendAnothersBreaking x = told("p5;p4;tt40;tk71;");
        C.due("wears(0, 9)", x.wears(0, 9), 0);
        C.due("wears(0, 3)", x.wears(0, 3), 9);
        C.due("wears(0, 10)", x.wears(0, 10), -6);
        C.due("wears(0, -1)", x.wears(0, -1), -4);
        C.due("wears(2, -1)", x.wears(2, -1), -1);
        C.due("wears(-1, 1)", x.wears(-1, 1), -1);
        C.due("thing(0, 3)", x.thing(0, 3), 3);
        C.about("promise 11");
        C.due("skill(1, 9)", x.skill(1, 9), 4);
        C.due("skill(1, 0)", x.skill(1, 0), 9);
        C.due("skill(1, 10)", x.skill(1, 10), -6);
        C.due("skill(1, -1)", x.skill(1, -1), -4);
        C.due("skill(2, -1)", x.skill(2, -1), -1);
        C.due("skill(-1, 1)", x.skill(-1, 1), -1);
        C.due("person(1, 0)", x.person(1, 0), 0);
        C.about("promise 12");
        C.due("turn(1, 5, 9)", x.turn(1, 5, 9), 47);
        C.due("turn(1, 0, 0)", x.turn(1, 0, 0), 59);
        C.due("turn(1, 6, -1)", x.turn(1, 6, -1), -2);
        C.due("turn(1, -1, 10)", x.turn(1, -1, 10), -2);
        C.due("turn(1, 1, -1)", x.turn(1, 1, -1), -4);
        C.due("turn(1, 1, 10)", x.turn(1, 1, 10), -6);
        C.due("turn(2, 6, 10)", x.turn(2, 6, 10), -1);
        C.due("turn(-1, 0, 0)", x.turn(-1, 0, 0), -1);
        C.due("thing(1, 0)", x.thing(1, 0), 0);
        C.due("thing(1, 1)", x.thing(1, 1), 0);
    }

    private static void daysGoBy() {
        C.about("promise 13");
        MendAnothersBreaking x = told("p5;tt00;tg00;tw00;tk90;tl00;tc00;");
        C.due("days(1)", x.days(1), 6);
        int[] afterOne = {0, 1, 2, 2, 1, 0};
        for (int thing = 0; thing < 6; thing++) {
            C.due("WEAR of " + thing, x.thing(thing, 3), afterOne[thing]);
        }
        C.due("days(1)", x.days(1), 6);
        int[] afterTwo = {1, 2 + 1, 2 + 3, 2 + 3, 2, 0};
        for (int thing = 0; thing < 6; thing++) {
            C.due("WEAR of " + thing, x.thing(thing, 3), afterTwo[thing]);
        }
        C.due("days(1)", x.days(1), 6);
        C.due("days(1)", x.days(1), 4);
        C.due("WEAR would be 10", x.thing(2, 3), 9);
        C.due("it breaks by NOBODY", x.thing(2, 4), -8);
        C.due("a GATE breaks on DAY 7", x.days(5), 3);
        C.due("WEAR 9 of a TOOL", x.thing(4, 3), 9);
        C.due("days(1)", x.days(1), 2);
        C.due("days(9)", x.days(9), 2);
        C.due("WEAR 9 of a THING", x.thing(0, 3), 9);
        C.due("days(1)", x.days(1), 1);
        C.due("days(60)", x.days(60), 1);
        C.due("days(0)", x.days(0), -4);
        C.due("days(-1)", x.days(-1), -4);
        C.due("days(61)", x.days(61), -6);
        for (int i = 0; i < 15; i++) {
            C.due("days(60)", x.days(60), 1);
        }
        C.due("DAY 980", x.count(2), 980);
        C.due("days(20)", x.days(20), -6);
        C.due("days(0)", x.days(0), -4);
        C.due("days(19)", x.days(19), 1);
        C.due("days(1)", x.days(1), -6);
        C.due("DAY 999", x.count(2), 999);
        C.due("count(16)", x.count(16), 3);
        C.due("in thought it may pass", x.wholeThen(99), 32);
    }

    private static void mendersOfADay() {
        C.about("promise 13, mending");
        MendAnothersBreaking x = told("p9;p9;p0;tt00;tt40;tt00;tt00;b00;b11;b02;b13;w05;");
        C.due("days(1)", x.days(1), 3);
        C.due("the first mends the least that another broke", x.thing(1, 4), -9);
        C.due("the next mends the least that is left", x.thing(0, 4), -9);
        C.due("the last finds what is left", x.thing(2, 4), -9);
        C.due("none mends two", x.thing(3, 4), 1);
        C.due("WEAR 0 behind it", x.thing(0, 3), 0);
        C.due("count(5)", x.count(5), 3);
        C.due("days(1)", x.days(1), 4);
        C.due("count(5)", x.count(5), 4);
        C.due("person(0, 1)", x.person(0, 1), 2);
        MendAnothersBreaking worn = told("p9;p0;tw01;b10;d02;");
        C.due("what is mended on DAY 1 wears on DAY 2", worn.thing(0, 3), 3);
        MendAnothersBreaking broken = told("p9;p0;tt91;w09;d01;");
        C.due("WEAR 9 on an odd DAY", broken.thing(0, 4), -9);
        C.due("days(1)", broken.days(1), 0);
        C.due("nobody mends what NOBODY broke", broken.days(5), 0);
    }

    private static void inMind() {
        MendAnothersBreaking x = told("p9;p0;tw01;tt50;tc01;b10;b01;n2;");
        C.about("promise 14");
        C.due("wholeThen(0)", x.wholeThen(0), 0);
        C.due("wholeThen(1)", x.wholeThen(1), 1);
        C.due("wholeThen(4)", x.wholeThen(4), 1);
        C.due("wholeThen(5)", x.wholeThen(5), 0);
        C.due("wholeThen(99)", x.wholeThen(99), 0);
        C.due("wholeThen(-1)", x.wholeThen(-1), -4);
        C.due("wholeThen(100)", x.wholeThen(100), -6);
        C.about("promise 15");
        C.due("brokenThen(0, 0)", x.brokenThen(0, 0), 1);
        C.due("brokenThen(0, 1)", x.brokenThen(0, 1), -9);
        C.due("brokenThen(0, 5)", x.brokenThen(0, 5), -8);
        C.due("brokenThen(1, 99)", x.brokenThen(1, 99), 0);
        C.due("brokenThen(2, 3)", x.brokenThen(2, 3), -8);
        C.due("brokenThen(3, -1)", x.brokenThen(3, -1), -1);
        C.due("brokenThen(-1, 1)", x.brokenThen(-1, 1), -1);
        C.due("brokenThen(0, -1)", x.brokenThen(0, -1), -4);
        C.due("brokenThen(0, 100)", x.brokenThen(0, 100), -6);
        C.about("promise 16");
        C.due("mendedThen(0)", x.mendedThen(0), 0);
        C.due("mendedThen(1)", x.mendedThen(1), 1);
        C.due("mendedThen(99)", x.mendedThen(99), 1);
        C.due("mendedThen(-1)", x.mendedThen(-1), -4);
        C.due("mendedThen(100)", x.mendedThen(100), -6);
        C.due("days(1)", x.days(1), 1);
        C.due("mendedThen(1) of none more", x.mendedThen(1), 0);
        C.due("nothing changes", x.count(2), 1);
    }

    private static void againAndMourned() {
        C.about("promise 17");
        MendAnothersBreaking x = told("p9;p0;tw01;tt50;tc01;tt01;b10;b01;");
        C.due("again(0, 0)", x.again(0, 0), 1);
        C.due("again(0, 1)", x.again(0, 1), 0);
        C.due("again(1, 0)", x.again(1, 0), -9);
        C.due("again(1, 1)", x.again(1, 1), 0);
        C.due("again(2, 0)", x.again(2, 0), 0);
        C.due("again(2, 1)", x.again(2, 1), -9);
        C.due("again(3, 1)", x.again(3, 1), 20);
        C.due("again(4, 2)", x.again(4, 2), -1);
        C.due("again(-1, 0)", x.again(-1, 0), -1);
        C.due("again(0, 2)", x.again(0, 2), -2);
        C.due("again(0, -1)", x.again(0, -1), -2);
        C.about("promise 18");
        C.due("mourned(0)", x.mourned(0), 0);
        C.due("mourned(1)", x.mourned(1), -9);
        C.due("rusts(2)", x.rusts(2), 2 - 1);
        C.due("mourned(0)", x.mourned(0), 4);
        C.due("mourned(2)", x.mourned(2), -2);
        C.due("mourned(-1)", x.mourned(-1), -2);
        MendAnothersBreaking y = told("p9;p0;tt01;tt01;tt01;b10;b11;b12;");
        C.due("mourned(1)", y.mourned(1), 3);
        C.due("mends(0, 0)", y.mends(0, 0), 1);
        C.due("mourned(1)", y.mourned(1), 2);
        MendAnothersBreaking z = told("p9;p0;tt01;");
        C.due("mourned(1) of what is WHOLE", z.mourned(1), 0);
        C.due("of none", told("p9;").mourned(1), 0);
        C.due("at 99", agedFor99().again(0, 1), -9);
        C.due("at 99", agedFor99().again(1, 1), 20);
    }

    private static MendAnothersBreaking agedFor99() {
        return told("p0;tc00;tt00;");
    }

    private static void firstToBreak() {
        C.about("promise 19");
        MendAnothersBreaking x = told("p9;p0;tt01;tw01;tk01;tw01;tc01;");
        C.due("first(0)", x.first(0), 1);
        C.due("first(1)", x.first(1), 4);
        C.due("breaks(1, 1)", x.breaks(1, 1), 4);
        C.due("of those that are WHOLE", x.first(0), 3);
        C.due("rusts(3)", x.rusts(3), 3);
        C.due("first(0)", x.first(0), 0);
        C.due("first(1)", x.first(1), 20);
        C.due("rusts(0)", x.rusts(0), 2);
        C.due("rusts(2)", x.rusts(2), 1);
        C.due("what is mended and breaks is none of them", x.first(0), -9);
        C.due("first(1)", x.first(1), -9);
        C.due("first(2)", x.first(2), -2);
        C.due("first(-1)", x.first(-1), -2);
        C.due("of none", told("p1;").first(0), -9);
    }

    private static void menders() {
        C.about("promise 20");
        MendAnothersBreaking x = told("p9;p0;p5;p4;tt51;tc91;tl92;tw31;tt01;b30;");
        C.due("menders(0)", x.menders(0), 1 + 4);
        C.due("menders(1)", x.menders(1), 1 + 4 + 8);
        C.due("menders(2)", x.menders(2), 15);
        C.due("menders(3)", x.menders(3), 1 + 4 + 8);
        C.due("menders(4)", x.menders(4), 15);
        C.due("breaks(0, 3)", x.breaks(0, 3), 3);
        C.due("whoever broke it", x.menders(3), 1 + 4 + 8);
        C.due("menders(5)", x.menders(5), -1);
        C.due("menders(-1)", x.menders(-1), -1);
    }

    private static void together() {
        C.about("promise 21");
        MendAnothersBreaking x = told("p9;p5;p0;tt02;tt52;tt92;tt02;tt02;b20;b21;b22;n3;");
        C.due("together(-1)", x.together(-1), 2);
        C.due("the first such", x.together(0), 0);
        C.due("the first such", x.together(1), 1);
        C.due("the first such", x.together(2), -9);
        C.due("by NOBODY", x.together(3), -9);
        C.due("WHOLE", x.together(4), -9);
        C.due("together(5)", x.together(5), -1);
        C.due("together(-2)", x.together(-2), -1);
        C.due("skill(2, 1)", x.skill(2, 1), 0);
        C.due("breaks(1, 4)", x.breaks(1, 4), 0);
        C.due("together(-1)", x.together(-1), 3);
        C.due("together(0)", x.together(0), 0);
        C.due("together(1)", x.together(1), 1);
        C.due("together(2)", x.together(2), -9);
        C.due("together(4)", x.together(4), 2);
        MendAnothersBreaking y = told("p9;p5;tt90;tt40;b10;b11;");
        C.due("nobody two", y.together(-1), 1);
        MendAnothersBreaking z = told("p9;p5;p0;tt02;tt92;b20;b21;");
        C.due("the most ahead of the least", z.together(0), 1);
        C.due("the most ahead of the least", z.together(1), 0);
        C.due("the most ahead of the least", z.together(-1), 2);
    }

    private static void lostOnes() {
        C.about("promise 22");
        MendAnothersBreaking x = told("p9;p5;p0;tt92;tt92;tt52;tt02;tt02;b00;b11;b02;n3;");
        C.due("lost()", x.lost(), 1 + 8);
        C.due("skill(2, 9)", x.skill(2, 9), 0);
        C.due("lost()", x.lost(), 8);
        C.due("of none", new MendAnothersBreaking().lost(), 0);
    }

    private static void breaker() {
        C.about("promise 23");
        MendAnothersBreaking x = told("p9;p5;p0;tt02;tt92;tt52;tt02;b20;");
        C.due("breaker(1): 0 cannot mend his own", x.breaker(1), 1);
        C.due("breaker(2): 1 mends it at once", x.breaker(2), 0);
        C.due("breaker(0)", x.breaker(0), -3);
        C.due("breaker(4)", x.breaker(4), -1);
        C.due("breaker(-1)", x.breaker(-1), -1);
        C.due("nobody mends it", told("p0;p0;tt90;").breaker(0), -9);
        C.due("one alone", told("p9;tt00;").breaker(0), -9);
        MendAnothersBreaking y = told("p9;p9;p0;tt90;tt90;tt90;b21;");
        C.due("broken by 0: 1 mends it on DAY 1", y.breaker(0), 0);
        C.due("0 mends 1 first, 1 is free on DAY 1", y.breaker(2), 0);
        MendAnothersBreaking z = told("p9;p9;tt90;tt90;b00;");
        C.due("by 0: 1 is busy till DAY 2; by 1: 0 on DAY 1", z.breaker(1), 1);
    }

    private static void bestSays() {
        C.about("promise 24");
        MendAnothersBreaking x = told("p9;p5;tt90;tt50;tt50;n1;n2;");
        C.due("bestSays(0)", x.bestSays(0), -9);
        C.due("bestSays(1)", x.bestSays(1), 10);
        C.due("skill(1, 4)", x.skill(1, 4), 5);
        C.due("bestSays(1): 0 alone may mend", x.bestSays(1), 11);
        C.due("bestSays(-1)", x.bestSays(-1), -4);
        C.due("bestSays(100)", x.bestSays(100), -6);
        C.due("bestSays(99)", x.bestSays(99), -9);
        MendAnothersBreaking y = told("p9;p5;tt90;tc50;n0;n1;");
        C.due("one that wears comes to nothing", y.bestSays(99), 10);
        C.due("one that wears, ahead of that", y.bestSays(5), 1);
        C.due("none", told("p9;p9;tt00;").bestSays(5), -9);
    }

    private static void confessions() {
        C.about("promise 25");
        C.due("none is by NOBODY", told("p9;p9;tt00;b00;").confessions(), 0);
        C.due("any one", told("p9;p9;tt00;n0;").confessions(), 1);
        C.due("0 alone may mend it", told("p9;p5;p5;tt90;n0;").confessions(), 2);
        C.due("1 alone may mend it", told("p5;p9;p5;tt90;n0;").confessions(), 1);
        C.due("two alone", told("p9;p5;tt90;tt90;n0;n1;").confessions(), 2);
        C.due("nobody may", told("p8;p5;tt90;n0;").confessions(), -9);
        C.due("one there is", told("p9;tt00;n0;").confessions(), -9);
        MendAnothersBreaking x = told("p9;p5;tl90;tt60;n0;n1;");
        C.due("a TOOL by either, a THING by 1", x.confessions(), 2);
        C.due("the fewest, not the least", told("p9;p4;p9;tl70;tt91;n0;n1;").confessions(), 1);
    }

    private static void learns() {
        C.about("promise 26");
        MendAnothersBreaking x = told("p3;p4;p5;tt90;tt90;b20;b01;");
        C.due("learns(0)", x.learns(0), -9);
        C.due("learns(1): 1 mends one, 0 one, 2 one", x.learns(1), 0);
        C.due("learns(2): 1 mends both", x.learns(2), 1);
        C.due("learns(99)", x.learns(99), -9);
        C.due("learns(-1)", x.learns(-1), -4);
        C.due("learns(100)", x.learns(100), -6);
        C.due("more than else", told("p9;p9;tt90;b00;").learns(1), -9);
        C.due("a TOOL", told("p4;p0;p0;tl90;b10;").learns(1), 0);
        C.due("the SKILL stays", x.person(0, 0), 3);
    }

    private static void missed() {
        C.about("promise 27");
        MendAnothersBreaking x = told("p3;p9;p5;tt90;tt90;tc40;b01;b02;");
        C.due("missed(0)", x.missed(0), 0);
        C.due("missed(1)", x.missed(1), 1);
        C.due("missed(99): the CUP stays without 0 or 1", x.missed(99), 0);
        C.due("missed(-1)", x.missed(-1), -4);
        C.due("missed(100)", x.missed(100), -6);
        C.due("nobody", new MendAnothersBreaking().missed(5), -9);
        C.due("his SKILL is his", told("p9;p0;p0;tl90;b10;").missed(1), 0);
        C.due("he mends nothing, his TOOL is as it was", told("p9;p0;p0;tl90;tt02;b10;b21;").missed(1), 1);
        C.due("he is missed on all DAYS", told("p0;p9;tt00;tt00;tt00;b00;b01;b02;").missed(3), 1);
    }

    private static void dues() {
        C.about("promise 28");
        MendAnothersBreaking x = told("p9;p9;p9;tt00;tt01;tt01;tt02;tt02;b00;b01;b02;b13;n4;");
        C.due("due(0)", x.due(0), 2);
        C.due("due(1)", x.due(1), 1 - 2);
        C.due("due(2)", x.due(2), -1);
        C.due("due(3)", x.due(3), DUE + 1);
        C.due("due(-1)", x.due(-1), DUE + 1);
        C.due("count(11)", x.count(11), 2);
    }

    private static void rings() {
        C.about("promise 29");
        MendAnothersBreaking x = told("p9;p9;p9;p9;tt00;tt00;tt01;tt02;tt03;b00;b11;b22;b13;n4;");
        C.due("ring(0, 0)", x.ring(0, 0), 3);
        C.due("ring(0, 1)", x.ring(0, 1), 1);
        C.due("ring(1, 0)", x.ring(1, 0), 2);
        C.due("ring(1, 1)", x.ring(1, 1), 1);
        C.due("ring(3, 0)", x.ring(3, 0), 1);
        C.due("ring(3, 1)", x.ring(3, 1), 0);
        C.due("mends(0, 3)", x.mends(0, 3), 1);
        C.due("ring(0, 0)", x.ring(0, 0), 3);
        C.due("ring(0, 1)", x.ring(0, 1), 0);
        C.due("ring(4, 2)", x.ring(4, 2), -1);
        C.due("ring(-1, 0)", x.ring(-1, 0), -1);
        C.due("ring(0, 2)", x.ring(0, 2), -2);
        C.due("ring(0, -1)", x.ring(0, -1), -2);
        MendAnothersBreaking six = told("p0;p0;p0;p0;p0;p0;tt00;tt01;tt02;tt03;tt04;tt05;b10;b21;b32;b43;b54;b05;");
        C.due("all six", six.ring(2, 0), 6);
        C.due("all six", six.ring(2, 1), 1);
        C.due("the least of his", told("p0;p0;p0;tt00;tt00;tt01;b20;b11;b02;").ring(0, 0), 2);
    }

    private static void arranged() {
        C.about("promise 30");
        MendAnothersBreaking x = told("p9;p9;p9;tt30;tt41;tt52;tt60;tt61;b10;b01;b22;b23;");
        C.due("arranged(0)", x.arranged(0), 1);
        C.due("arranged(1)", x.arranged(1), 2);
        C.due("arranged(2)", x.arranged(2), 1);
        C.due("arranged(3)", x.arranged(3), -2);
        C.due("arranged(-1)", x.arranged(-1), -2);
        MendAnothersBreaking y = told("p9;p9;p9;tt30;tt30;tt51;tt62;tt02;b02;b20;b11;b03;b14;");
        C.due("arranged(0)", y.arranged(0), 2);
        C.due("the least of the most", y.arranged(1), 0);
        C.due("of none WHOLE", y.arranged(2), 0);
        MendAnothersBreaking z = told("p9;p9;tt30;tt31;n0;");
        C.due("none is by PEOPLE", z.arranged(1), -9);
        C.due("RICHEST of WHOLE THINGS", z.arranged(2), 1);
        C.due("of one's own", told("p9;p9;tt30;tt31;b00;b11;").arranged(0), 0);
        C.due("nobody", new MendAnothersBreaking().arranged(2), -9);
        C.due("FIGURES together", told("p9;p9;tt50;tt31;tt31;").arranged(2), 1);
        C.due("the least of several", told("p9;p9;p9;tt61;tt32;tt32;").arranged(2), 1);
    }

    private static void twos() {
        C.about("promise 31");
        MendAnothersBreaking x = told("p9;p9;p0;tt00;tt01;");
        C.due("nothing to gain", x.two(0, 1, 5), 0);
        C.due("two(0, 0, 5)", x.two(0, 0, 5), -1);
        C.due("two(0, 3, -1)", x.two(0, 3, -1), -1);
        C.due("two(-1, 0, 5)", x.two(-1, 0, 5), -1);
        C.due("two(0, 1, -1)", x.two(0, 1, -1), -4);
        C.due("two(0, 1, 100)", x.two(0, 1, 100), -6);
        // The other breaks the WHEEL, so that his GATE is mended on DAY 2 and has WEAR 9 on DAY 8, not 11.
        C.due("the other breaks", told("p4;p3;tw30;tg41;b11;").two(0, 1, 8), 1);
        C.due("it is so on DAY 7 anyway", told("p4;p3;tw30;tg41;b11;").two(0, 1, 7), 0);
        // The first breaks the other's WHEEL, so that his own is mended on DAY 2 and has WEAR 7 on DAY 5, not 10.
        C.due("the first breaks", told("p2;p2;tw11;tw00;b01;").two(0, 1, 5), 10);
        C.due("the other of two", told("p2;p2;tw11;tw00;b01;").two(1, 0, 5), 1);
        C.due("both break", told("p8;p7;tg71;tg60;tc10;tg61;b01;b13;").two(0, 1, 8), 11);
        MendAnothersBreaking y = told("p0;p9;p9;tt90;tt90;tt91;b20;");
        for (int n = 0; n < 4; n++) {
            C.due("two(0, 1, " + n + ")", y.two(0, 1, n), 0);
        }
    }

    private static void storms() {
        C.about("promise 32");
        MendAnothersBreaking x = told("p9;p0;tw01;tt01;tc01;tg01;");
        C.due("storm(2, 7, 20, 0)", x.storm(2, 7, 20, 0), 1);
        C.due("storm(2, 7, 20, 1)", x.storm(2, 7, 20, 1), 1);
        C.due("WEAR 2, 3, 2: WHOLE by no storm, or by one of DAY 1 or of DAY 3", x.storm(0, 3, 2, 0), 3);
        C.due("three DAYS", x.storm(0, 3, 2, 1), 8);
        C.due("odds 1 in 3: 8 by no storm, 4 and 4 by one", x.storm(0, 3, 3, 0), 16);
        C.due("odds 1 in 3", x.storm(0, 3, 3, 1), 27);
        C.due("no DAY", x.storm(0, 0, 2, 0), 1);
        C.due("no DAY", x.storm(0, 0, 2, 1), 1);
        C.due("four DAYS", x.storm(0, 4, 2, 0), 0);
        C.due("four DAYS", x.storm(0, 4, 2, 1), 1);
        C.due("least WEAR", x.storm(1, 7, 2, 0), 1);
        C.due("rusts(1)", x.rusts(1), 3);
        C.due("broken", x.storm(1, 1, 2, 0), 0);
        C.due("broken", x.storm(1, 1, 2, 1), 1);
        C.due("six DAYS at 1 in 20", x.storm(3, 6, 20, 0), SHARE_WITHOUT_STORM);
        C.due("six DAYS at 1 in 20", x.storm(3, 6, 20, 1), 64000000);
        C.due("storm(4, -1, 1, 2)", x.storm(4, -1, 1, 2), LONG + 1);
        C.due("storm(-1, 0, 2, 0)", x.storm(-1, 0, 2, 0), LONG + 1);
        C.due("storm(0, -1, 21, 2)", x.storm(0, -1, 21, 2), LONG + 4);
        C.due("storm(0, 8, 1, 2)", x.storm(0, 8, 1, 2), LONG + 4);
        C.due("storm(0, 8, 2, 2)", x.storm(0, 8, 2, 2), LONG + 6);
        C.due("storm(0, 7, 21, 2)", x.storm(0, 7, 21, 2), LONG + 6);
        C.due("storm(0, 7, 20, 2)", x.storm(0, 7, 20, 2), LONG + 2);
        C.due("storm(0, 7, 20, -1)", x.storm(0, 7, 20, -1), LONG + 2);
        C.due("count(14)", x.count(14), 2);
        C.due("count(16)", x.count(16), 2);
    }

    private static void means() {
        C.about("promise 33");
        MendAnothersBreaking x = told("p9;p0;tw01;tt01;tc01;tg01;w04;w13;w21;w30;");
        C.due("mean(0)", x.mean(0), 2);
        C.due("mean(1)", x.mean(1), 1);
        C.due("rusts(3)", x.rusts(3), 3);
        C.due("mean(0)", x.mean(0), 8);
        C.due("mean(1)", x.mean(1), 3);
        C.due("breaks(0, 0)", x.breaks(0, 0), 2);
        C.due("breaks(0, 1)", x.breaks(0, 1), 1);
        C.due("wears(2, 0)", x.wears(2, 0), 1);
        C.due("0 by 1", x.mean(0), 0);
        C.due("0 by 1", x.mean(1), 1);
        C.due("mean(2)", x.mean(2), LONG + 2);
        C.due("mean(-1)", x.mean(-1), LONG + 2);
        MendAnothersBreaking y = told("p9;tt00;tt00;tt00;tt00;w06;");
        C.due("6 by 4", y.mean(0), 3);
        C.due("6 by 4", y.mean(1), 2);
        C.due("of none", new MendAnothersBreaking().mean(0), 0);
        C.due("of none", new MendAnothersBreaking().mean(1), 1);
    }

    private static void whatItIs() {
        C.about("promise 34");
        MendAnothersBreaking x = told("p9;p0;tk51;tt01;");
        C.due("no ROW: KINDS", x.whatIs(0, 0), 63);
        C.due("no ROW: FIGURES", x.whatIs(0, 1), 1023);
        C.due("row(0)", x.row(0), 1);
        C.due("whatIs(0, 0)", x.whatIs(0, 0), 63);
        C.due("row(1)", x.row(1), 2);
        C.due("behind 1 DAY 1: g, k, l", x.whatIs(0, 0), 4 + 16 + 32);
        C.due("as a k of FIGURES 4 to 7", x.whatIs(0, 1), 16 + 32 + 64 + 128);
        C.due("row(3)", x.row(3), 3);
        C.due("then 3: g, k", x.whatIs(0, 0), 4 + 16);
        C.due("of a t no FIGURE tells", x.whatIs(1, 1), 0);
        C.due("the ROW stays", x.count(6), 3);
        C.due("whatIs(2, 2)", x.whatIs(2, 2), -1);
        C.due("whatIs(-1, 0)", x.whatIs(-1, 0), -1);
        C.due("whatIs(0, 2)", x.whatIs(0, 2), -2);
        C.due("whatIs(0, -1)", x.whatIs(0, -1), -2);
        C.due("KIND stays", x.thing(0, 0), 4);
        C.due("FIGURE stays", x.thing(0, 1), 5);
        MendAnothersBreaking y = told("p4;p0;tt51;w07;b10;");
        C.due("row(7)", y.row(7), 1);
        C.due("row(0)", y.row(0), 2);
        C.due("mended on DAY 1 by SKILL 4: CUP 5 by 2", y.whatIs(0, 0), 2);
        C.due("mended on DAY 1 by SKILL 4: FIGURES 0 to 4", y.whatIs(0, 1), 31);
    }

    private static void rows() {
        C.about("promise 35");
        MendAnothersBreaking x = told("p9;p0;tt01;tw01;");
        C.due("row(0)", x.row(0), 1);
        C.due("row(99)", x.row(99), 2);
        C.due("row(-1)", x.row(-1), -4);
        C.due("row(100)", x.row(100), -6);
        for (int i = 3; i <= 16; i++) {
            C.due("row(5)", x.row(5), i);
        }
        C.due("row(5)", x.row(5), -6);
        C.due("row(-1) without room", x.row(-1), -4);
        C.due("count(6)", x.count(6), 16);
        C.about("promise 37");
        C.due("clear()", x.clear(), 16);
        C.due("clear()", x.clear(), 0);
        C.due("count(6)", x.count(6), 0);
        C.about("promise 36");
        C.due("judge() of none", x.judge(), -9);
        for (int i = 0; i < 5; i++) {
            x.row(i < 4 ? 2 : 1);
        }
        C.due("judge()", x.judge(), -9);
        C.due("the ROW has none then", x.count(6), 0);
        for (int i = 0; i < 6; i++) {
            x.row(i < 3 ? 2 : 1);
        }
        C.due("judge()", x.judge(), 3);
        C.due("the ROW has none then", x.count(6), 0);
        x.row(1);
        C.due("judge()", x.judge(), 0);
        C.due("DAY", x.count(2), 0);
    }

    private static void lotsDrawn() {
        C.about("promise 38");
        MendAnothersBreaking x = told("p9;tc00;tc00;n1;");
        // One of PEOPLE: a DRAW below 2; broken by him the THING is mended by nobody.
        int z = 12345;
        int whole = 0;
        for (int n = 1; n <= 20; n++) {
            z = z * 1664525 + 1013904223;
            whole += (z & 0x7fffffff) / 256 % 2;
            C.due("lots(" + n + ", 12345, 0)", x.lots(n, 12345, 0), whole);
        }
        C.due("none is mended", x.lots(20, 12345, 1), 0);
        MendAnothersBreaking y = told("p9;p9;tc00;tw00;n1;tt00;b12;");
        // Both mend what the other broke, so the CUP is WHOLE in each lane.
        int mended = 0;
        z = -7;
        for (int n = 1; n <= 20; n++) {
            z = z * 1664525 + 1013904223;
            mended += (z & 0x7fffffff) / 256 % 3 < 2 ? 2 : 1;
            C.due("lots(" + n + ", -7, 0)", y.lots(n, -7, 0), 2 * n);
            C.due("lots(" + n + ", -7, 1)", y.lots(n, -7, 1), mended);
        }
        C.due("lots(0, 0, 2)", x.lots(0, 0, 2), -4);
        C.due("lots(21, 0, 2)", x.lots(21, 0, 2), -6);
        C.due("lots(1, 0, 2)", x.lots(1, 0, 2), -2);
        C.due("lots(1, 0, -1)", x.lots(1, 0, -1), -2);
        MendAnothersBreaking none = new MendAnothersBreaking();
        C.due("nobody", none.lots(1, 0, 0), -3);
        C.due("nobody, what 2", none.lots(1, 0, 2), -2);
        C.due("nobody, n 0", none.lots(0, 0, 0), -4);
        C.due("count(13)", none.count(13), 1);
    }

    private static void images() {
        C.about("promise 39");
        MendAnothersBreaking x = told("p9;p3;tt01;tk50;w12;b10;d01;");
        C.due("image()", x.image(), 1);
        C.due("row(1)", x.row(1), 1);
        C.due("letter(112)", x.letter(112), 1);
        C.due("days(50)", x.days(50), 0);
        x.skill(0, 1);
        x.turn(0, 5, 9);
        x.wears(1, 1);
        C.about("promise 40");
        C.due("on()", x.on(), 1);
        C.due("count(0)", x.count(0), 2);
        C.due("count(3)", x.count(3), 3);
        C.due("count(5)", x.count(5), 1);
        C.due("person(0, 0)", x.person(0, 0), 9);
        C.due("person(0, 1)", x.person(0, 1), 1);
        C.due("thing(0, 0)", x.thing(0, 0), 0);
        C.due("thing(0, 1)", x.thing(0, 1), 0);
        C.due("thing(0, 3)", x.thing(0, 3), 0);
        C.due("thing(1, 3)", x.thing(1, 3), 3);
        C.due("the ROW is as it was", x.count(6), 1);
        C.due("letters are as they were", x.count(7), 1);
        C.due("lane()", x.lane(), -1001);
        C.due("lane()", tell(x, "p9;tt00;"), 2);
        C.due("person(3, 0)", x.person(3, 0), -1);
        C.due("on() again", x.on(), 1);
        C.due("count(0)", x.count(0), 2);
        C.due("count(1)", x.count(1), 2);
        C.due("REFUSALS are as they were", x.count(11), 1);
        C.due("days(1)", x.days(1), 2);
        C.due("image() of later", x.image(), 2);
        C.due("days(1)", x.days(1), 2);
        C.due("on()", x.on(), 2);
        MendAnothersBreaking y = new MendAnothersBreaking();
        C.due("on() without one", y.on(), -3);
        C.due("image() of nobody", y.image(), 0);
        C.due("lane", tell(y, "p9;tt00;d04;"), 3);
        C.due("on()", y.on(), 0);
        C.due("count(0)", y.count(0), 0);
        C.due("count(1)", y.count(1), 0);
        C.due("count(2)", y.count(2), 0);
        C.due("count(13)", y.count(13), 1);
    }

    private static void counts() {
        C.about("promise 41");
        MendAnothersBreaking x = told("p9;p3;p0;tt01;tk50;tc00;w12;b10;d02;n2;w27;");
        x.letter(1);
        x.row(4);
        x.row(4);
        int[] due = {3, 3, 2, 3, 1 + 5 + 7, 1, 2, 1};
        for (int what = 0; what < due.length; what++) {
            C.due("count(" + what + ")", x.count(what), due[what]);
        }
        x.thing(9, 9);
        x.first(9);
        x.first(9);
        x.rusts(2);
        x.rusts(2);
        x.rusts(2);
        x.row(-1);
        x.row(-1);
        x.row(-1);
        x.row(-1);
        x.due(-1);
        x.mean(5);
        for (int i = 0; i < 6; i++) {
            x.days(99);
        }
        int[] refusals = {2, 3, 3, 4, 0, 6};
        for (int i = 0; i < refusals.length; i++) {
            C.due("count(" + (11 + i) + ")", x.count(11 + i), refusals[i]);
        }
        for (int what : new int[] {-1, 8, 9, 10, 17, 100, Integer.MIN_VALUE, Integer.MAX_VALUE}) {
            C.due("count(" + what + ")", x.count(what), -9);
        }
        C.due("and is no REFUSAL", x.count(12), 3);
    }
}
