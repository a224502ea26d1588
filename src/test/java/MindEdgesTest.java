/** The edges that the document names of what is thought out of the lane as it is (promises 14 to 31). */
public final class MindEdgesTest {
    private static final String NINE_CUPS = "p9;p0;" + "tc90;".repeat(9);
    private static final String NINE_BROKEN = "b10;b11;b12;b13;b14;b15;b16;b17;b18;";
    private static final Check C = new Check();

    public static void main(String[] args) {
        aheadNoneAndMost();
        beyondTheLastDay();
        again();
        mourned();
        first();
        menders();
        together();
        lost();
        breaker();
        bestSays();
        confessions();
        learns();
        missed();
        due();
        ring();
        arranged();
        two();
        twoWithoutPair();
        C.end();
    }

    private static MendAnothersBreaking told(String text) {
        return Lanes.told(C, text);
    }

    /** A lane in two: more than 96 letters. */
    private static MendAnothersBreaking told(String text, String more) {
        MendAnothersBreaking x = told(text);
        C.holds("lane of " + more, Lanes.tell(x, more) > 0);
        return x;
    }

    private static MendAnothersBreaking atDay(int day, String text) {
        MendAnothersBreaking x = new MendAnothersBreaking();
        for (int left = day; left > 0; left -= 60) {
            x.days(Math.min(60, left));
        }
        C.holds("lane of " + text, Lanes.tell(x, text) > 0);
        C.due("DAY", x.count(2), day);
        return x;
    }

    private static void aheadNoneAndMost() {
        MendAnothersBreaking x = told(NINE_CUPS, NINE_BROKEN);
        C.about("promise 14");
        C.due("now none", x.wholeThen(0), 0);
        for (int n = 1; n <= 9; n++) {
            C.due("wholeThen(" + n + ")", x.wholeThen(n), (1 << n) - 1);
        }
        C.due("wholeThen(99)", x.wholeThen(99), 511);
        C.due("wholeThen(-1)", x.wholeThen(-1), -4);
        C.due("wholeThen(100)", x.wholeThen(100), -6);
        C.about("promise 15");
        C.due("now by 1", x.brokenThen(8, 0), 1);
        C.due("by 1", x.brokenThen(8, 8), 1);
        C.due("WHOLE", x.brokenThen(8, 9), -9);
        C.due("WHOLE", x.brokenThen(8, 99), -9);
        C.due("brokenThen(9, 0)", x.brokenThen(9, 0), -1);
        C.due("brokenThen(9, 100)", x.brokenThen(9, 100), -1);
        C.due("brokenThen(8, -1)", x.brokenThen(8, -1), -4);
        C.due("brokenThen(8, 100)", x.brokenThen(8, 100), -6);
        C.about("promise 16");
        C.due("none in no DAY", x.mendedThen(0), 0);
        C.due("mendedThen(8)", x.mendedThen(8), 8);
        C.due("mendedThen(9)", x.mendedThen(9), 9);
        C.due("mendedThen(99)", x.mendedThen(99), 9);
        C.due("mendedThen(-1)", x.mendedThen(-1), -4);
        C.due("mendedThen(100)", x.mendedThen(100), -6);
        C.due("days(4)", x.days(4), 4);
        C.due("more than now", x.mendedThen(99), 5);
        C.due("DAY", x.count(2), 4);
        C.about("promise 15: broken by NOBODY, by the last");
        MendAnothersBreaking y = told("p0;p0;p0;p0;p0;p0;tt90;tl90;w19;b50;");
        C.due("by the last", y.brokenThen(0, 99), 5);
        C.due("WHOLE", y.brokenThen(1, 0), -9);
        C.due("by NOBODY", y.brokenThen(1, 1), -8);
        C.due("wears(1, 5)", y.wears(1, 5), 9);
        C.due("WEAR 9 on DAY 4", y.brokenThen(1, 4), -9);
        C.due("by NOBODY on DAY 5", y.brokenThen(1, 5), -8);
    }

    private static void beyondTheLastDay() {
        C.about("in thought DAY may pass 999");
        MendAnothersBreaking x = atDay(999, "p9;p0;tt00;w09;tt00;b11;");
        C.due("days(1)", x.days(1), -6);
        C.due("DAY 1000 is even", x.wholeThen(1), 2);
        C.due("by NOBODY", x.brokenThen(0, 1), -8);
        C.due("mended on it", x.mendedThen(1), 1);
        C.due("again(0, 1)", x.again(0, 1), 1);
        C.due("again(1, 0)", x.again(1, 0), 1);
        C.due("first(0)", x.first(0), 0);
        C.due("first(1)", x.first(1), 1);
        C.due("mourned(1)", x.mourned(1), -9);
        C.due("a storm on it", x.storm(0, 1, 2, 0), 0);
        C.due("lots", x.lots(1, 0, 0) >= 0 ? 1 : 0, 1);
        C.due("row(9)", x.row(9), 1);
        C.due("row(9)", x.row(9), 2);
        C.due("WEAR 9, 9: all FIGURES", x.whatIs(0, 1), 1023);
        C.due("DAY", x.count(2), 999);
        MendAnothersBreaking y = atDay(998, "p9;p0;tt00;w09;");
        C.due("DAY 999 is odd", y.wholeThen(1), 1);
        C.due("DAY 1000 is even", y.wholeThen(2), 0);
        C.due("DAY 1097", y.wholeThen(99), 0);
        C.due("DAY", y.count(2), 998);
    }

    private static void again() {
        C.about("promise 17");
        MendAnothersBreaking x = told(NINE_CUPS, NINE_BROKEN);
        for (int thing = 0; thing < 9; thing++) {
            C.due("WHOLE first behind " + (thing + 1), x.again(thing, 0), thing + 1);
            C.due("it is not WHOLE now", x.again(thing, 1), 0);
        }
        C.due("again(9, 0)", x.again(9, 0), -1);
        C.due("again(-1, 2)", x.again(-1, 2), -1);
        C.due("again(0, 2)", x.again(0, 2), -2);
        C.due("again(0, -1)", x.again(0, -1), -2);
        MendAnothersBreaking y = told("p9;p0;tt01;tc01;tg01;tw01;tk91;tl01;tl01;n6;");
        int[] breaks = {20, -9, 7, 4, 4, 10, 0};
        for (int thing = 0; thing < 7; thing++) {
            C.due("BREAKS " + thing, y.again(thing, 1), breaks[thing]);
            C.due("WHOLE AGAIN " + thing, y.again(thing, 0), thing == 6 ? -9 : 0);
        }
        C.due("days(19)", y.days(19), 2);
        C.due("on the next DAY", y.again(0, 1), 1);
        C.due("days(1)", y.days(1), 1);
        C.due("now", y.again(0, 1), 0);
        C.due("never", y.again(0, 0), -9);
    }

    private static void mourned() {
        C.about("promise 18");
        MendAnothersBreaking x = told(NINE_CUPS, NINE_BROKEN);
        C.due("by PEOPLE", x.mourned(0), 0);
        C.due("all WHOLE behind 9", x.mourned(1), 9);
        C.due("days(8)", x.days(8), 8);
        C.due("behind 1", x.mourned(1), 1);
        C.due("days(1)", x.days(1), 9);
        C.due("now", x.mourned(1), 0);
        for (int thing = 0; thing < 9; thing++) {
            x.rusts(thing);
            C.due("mourned(0)", x.mourned(0), (2 << thing) - 1);
        }
        C.due("never", x.mourned(1), -9);
        C.due("mourned(2)", x.mourned(2), -2);
        C.due("mourned(-1)", x.mourned(-1), -2);
        C.about("promise 18: all WHOLE on the last DAY ahead of a break, or never");
        MendAnothersBreaking y = told("p9;p0;tc00;tc00;tl00;b10;b11;w27;");
        C.due("WEAR 9 on DAY 2", y.mourned(1), 2);
        C.due("wears(2, 8)", y.wears(2, 8), 7);
        C.due("broken on DAY 2", y.mourned(1), -9);
        C.due("of none", told("p9;").mourned(1), 0);
    }

    private static void first() {
        C.about("promise 19");
        MendAnothersBreaking x = told("p9;p0;tt01;tl01;tl01;tc01;tc01;");
        C.due("the least of two", x.first(0), 1);
        C.due("when", x.first(1), 10);
        C.due("wears(2, 1)", x.wears(2, 1), 0);
        C.due("the other", x.first(0), 2);
        C.due("when", x.first(1), 9);
        C.due("wears(0, 9)", x.wears(0, 9), 0);
        C.due("wears(1, 8)", x.wears(1, 8), 0);
        C.due("both on DAY 2", x.first(0), 0);
        C.due("when", x.first(1), 2);
        C.due("breaks(1, 0)", x.breaks(1, 0), 4);
        C.due("a broken one is none", x.first(0), 1);
        C.due("rusts(1)", x.rusts(1), 3);
        C.due("rusts(2)", x.rusts(2), 2);
        C.due("CUPS never", x.first(0), -9);
        C.due("CUPS never", x.first(1), -9);
        C.due("first(2)", x.first(2), -2);
        C.due("first(-1)", x.first(-1), -2);
        MendAnothersBreaking late = told("p9;tt00;");
        C.due("as late as can be", late.first(1), 20);
        C.due("as late as can be", late.first(0), 0);
        C.due("days(19)", late.days(19), 1);
        C.due("on the next", late.first(1), 1);
        C.due("of none", told("p9;").first(0), -9);
        C.due("of none WHOLE", told("p9;tt00;b00;").first(1), -9);
    }

    private static void menders() {
        C.about("promise 20");
        MendAnothersBreaking x = told("p0;p0;p0;p0;p0;p0;tt00;tt10;tt95;");
        C.due("all", x.menders(0), 63);
        C.due("none", x.menders(1), 0);
        C.due("skill(5, 9)", x.skill(5, 9), 0);
        C.due("the last alone", x.menders(2), 32);
        C.due("breaks(5, 2)", x.breaks(5, 2), 2);
        C.due("were it broken by somebody else", x.menders(2), 32);
        C.due("menders(3)", x.menders(3), -1);
        C.due("menders(-1)", x.menders(-1), -1);
        C.due("one alone", told("p0;tt00;").menders(0), 1);
    }

    private static void together() {
        C.about("promise 21");
        MendAnothersBreaking x = told("p9;p9;p9;p9;p9;p9;" + "tt90;".repeat(9), "b00;b11;b22;b33;b44;b55;b06;b17;b28;");
        int[] menders = {1, 0, 3, 2, 5, 4, -9, -9, -9};
        C.due("six at once", x.together(-1), 6);
        for (int thing = 0; thing < 9; thing++) {
            C.due("the mender of " + thing, x.together(thing), menders[thing]);
        }
        C.due("together(9)", x.together(9), -1);
        C.due("together(-2)", x.together(-2), -1);
        MendAnothersBreaking none = told("p9;p8;tt90;tt90;tt90;b00;n1;");
        C.due("none at once", none.together(-1), 0);
        C.due("his own, below HARD", none.together(0), -9);
        C.due("by NOBODY", none.together(1), -9);
        C.due("WHOLE", none.together(2), -9);
        MendAnothersBreaking all = told("p9;p9;tt90;tt90;b10;b01;");
        C.due("all at once", all.together(-1), 2);
        C.due("all at once", all.together(1), 1);
        C.due("ahead of it one that nobody mends", told("p9;p0;tt90;tt90;b11;").together(1), 0);
        x.image();
        C.due("days(2)", x.days(2), 9);
        C.due("none any more", x.together(-1), 0);
        MendAnothersBreaking fewer = told("p9;p9;tt90;b00;");
        C.due("image()", fewer.image(), 0);
        C.due("more THINGS", Lanes.tell(fewer, "tt90;tt90;b01;b12;"), 4);
        C.due("all at once", fewer.together(-1), 2);
        C.due("on()", fewer.on(), 0);
        C.due("one again", fewer.together(-1), 1);
        C.due("of no THINGS", told("p9;").together(-1), 0);
        C.due("of no THINGS", told("p9;").together(0), -1);
    }

    private static void lost() {
        C.about("promise 22");
        MendAnothersBreaking x = told("p8;p8;" + "tt90;".repeat(9));
        C.due("WHOLE ones are not", x.lost(), 0);
        for (int thing = 0; thing < 9; thing++) {
            C.due("a break", thing % 2 == 0 ? x.rusts(thing) : x.breaks(0, thing), 8 - thing);
            C.due("lost()", x.lost(), (2 << thing) - 1);
        }
        C.due("skill(0, 9)", x.skill(0, 9), 8);
        C.due("he himself may not", x.lost(), 511);
        C.due("skill(1, 9)", x.skill(1, 9), 8);
        C.due("by NOBODY alone", x.lost(), 1 + 4 + 16 + 64 + 256);
        C.due("one alone", told("p9;tt00;b00;").lost(), 1);
    }

    private static void breaker() {
        C.about("promise 23");
        C.due("the least of several", told("p9;p9;p9;tt90;").breaker(0), 0);
        C.due("not who alone may mend", told("p9;p0;p0;tt90;").breaker(0), 1);
        C.due("not who alone may mend", told("p0;p9;p0;tt90;").breaker(0), 0);
        C.due("nobody may", told("p8;p8;tt90;").breaker(0), -9);
        C.due("one alone", told("p9;tt00;").breaker(0), -9);
        MendAnothersBreaking x = told(NINE_CUPS, NINE_BROKEN.substring(0, 32));
        C.due("behind 9 DAYS", x.breaker(8), 1);
        C.due("breaks(1, 8)", x.breaks(1, 8), 0);
        C.due("not WHOLE", x.breaker(8), -3);
        C.due("rusts(8)", x.mends(0, 8), 1);
        C.due("rusts(8)", x.rusts(8), 0);
        C.due("not WHOLE", x.breaker(8), -3);
        C.due("breaker(9)", x.breaker(9), -1);
        C.due("breaker(-1)", x.breaker(-1), -1);
        MendAnothersBreaking last = told("p0;p0;p0;p0;p9;p9;tt90;tt90;b40;");
        C.due("5 mends THING 0 first, 4 is free at once", last.breaker(1), 0);
        MendAnothersBreaking alike = told("p9;p9;p0;tt90;tt90;tt90;b20;b21;");
        C.due("by either behind 2", alike.breaker(2), 0);
        C.due("all is mended in thought", alike.wholeThen(9), 7);
        C.due("and is as it was", alike.breaker(2), 0);
    }

    private static void bestSays() {
        C.about("promise 24");
        MendAnothersBreaking x = told(NINE_CUPS);
        C.due("none is broken", x.bestSays(9), -9);
        C.due("rusts(8)", x.rusts(8), 8);
        C.due("behind no DAY", x.bestSays(0), -9);
        C.due("the last THING, not he who alone may mend", x.bestSays(1), 81);
        C.due("behind 99", x.bestSays(99), 81);
        C.due("rusts(0)", x.rusts(0), 7);
        C.due("the first by THINGS", x.bestSays(99), 1);
        C.due("bestSays(-1)", x.bestSays(-1), -4);
        C.due("bestSays(100)", x.bestSays(100), -6);
        C.due("skill(0, 3)", x.skill(0, 3), 9);
        C.due("not more than else", x.bestSays(99), -9);
        C.due("breaks(1, 1)", x.breaks(1, 1), 6);
        C.due("by PEOPLE already", x.bestSays(99), -9);
        MendAnothersBreaking worn = told("p9;p9;tl00;n0;");
        C.due("WHOLE from DAY 1", worn.bestSays(1), 0);
        C.due("till DAY 10", worn.bestSays(10), 0);
        C.due("not on DAY 11", worn.bestSays(11), -9);
        C.due("one alone", told("p9;tc00;n0;").bestSays(9), -9);
        C.due("a TOOL is WHOLE else, too", told("p0;p0;tc90;tl00;n0;w15;").bestSays(4), -9);
        C.due("a TOOL breaks else, too", told("p0;p0;tc00;tl00;n0;w15;").bestSays(5), 0);
    }

    private static void confessions() {
        C.about("promise 25");
        C.due("no THINGS", told("p9;").confessions(), 0);
        C.due("by PEOPLE", told("p9;p9;tt00;b00;").confessions(), 0);
        C.due("one alone", told("p9;tt00;n0;").confessions(), -9);
        C.due("nobody may", told("p8;p8;tt90;n0;").confessions(), -9);
        C.due("one of two THINGS nobody may", told("p8;p8;tt80;tt90;n0;n1;").confessions(), -9);
        C.due("HARD is SKILL", told("p8;p8;tt80;n0;").confessions(), 1);
        C.due("0 alone may", told("p8;p7;tt80;n0;").confessions(), 2);
        C.due("1 alone may", told("p7;p8;tt80;n0;").confessions(), 1);
        C.due("the last alone may", told("p7;p7;p7;p7;p7;p8;tt80;n0;").confessions(), 1);
        MendAnothersBreaking nine = told("p9;p8;" + "tt90;".repeat(9), "n0;n1;n2;n3;n4;n5;n6;n7;n8;");
        C.due("all nine by one", nine.confessions(), 2);
    }

    private static void learns() {
        C.about("promise 26");
        MendAnothersBreaking x = told("p0;p8;tt90;b00;");
        C.due("behind no DAY", x.learns(0), -9);
        C.due("1 then mends it", x.learns(1), 1);
        C.due("learns(-1)", x.learns(-1), -4);
        C.due("learns(100)", x.learns(100), -6);
        C.due("the SKILL is as it was", x.person(1, 0), 8);
        C.due("skill(1, 9)", x.skill(1, 9), 8);
        C.due("no more than else", x.learns(1), -9);
        C.due("all WHOLE", told("p0;p0;tt90;").learns(9), -9);
        C.due("by NOBODY", told("p0;p0;tt90;n0;").learns(99), -9);
        C.due("the least of several", told("p0;p0;p0;tt90;b00;").learns(1), 1);
        C.due("one alone", told("p0;tt90;b00;").learns(99), -9);
        C.due("till it breaks again", told("p0;p0;tl90;b00;").learns(10), 0);
        C.due("not on DAY 11", told("p0;p0;tl90;b00;").learns(11), -9);
    }

    private static void missed() {
        C.about("promise 27");
        MendAnothersBreaking x = told("p0;p9;tc90;b00;");
        C.due("behind no DAY all are alike", x.missed(0), 0);
        C.due("behind one", x.missed(1), 1);
        C.due("behind 99", x.missed(99), 1);
        C.due("missed(-1)", x.missed(-1), -4);
        C.due("missed(100)", x.missed(100), -6);
        C.due("nobody", new MendAnothersBreaking().missed(0), -9);
        C.due("all are alike", told("p9;p9;p9;tt00;").missed(9), 0);
        C.due("another mends it as well", told("p9;p9;p9;tt00;b20;").missed(1), 0);
        C.due("no THINGS", told("p9;").missed(99), 0);
        C.due("all nine are WHOLE without anybody", told(NINE_CUPS).missed(99), 0);
        MendAnothersBreaking y = told("p9;p5;p0;tl92;tc90;b20;b01;");
        C.due("the TOOL without 0, the CUP without 1", y.missed(10), 0);
        C.due("the TOOL breaks on DAY 11", y.missed(11), 1);
        C.due("he nowhere mends, so that more are WHOLE", told("p9;p0;p9;tc90;b20;").missed(1), 0);
    }

    private static void due() {
        C.about("promise 28");
        MendAnothersBreaking x = told("p0;p0;" + "tt00;".repeat(9));
        C.due("none", x.due(0), 0);
        for (int thing = 0; thing < 9; thing++) {
            x.breaks(1, thing);
            C.due("of the other's", x.due(1), thing + 1);
            C.due("below 0", x.due(0), -thing - 1);
        }
        C.due("due(2)", x.due(2), 1000000001);
        C.due("due(-1)", x.due(-1), 1000000001);
        C.due("count(11)", x.count(11), 2);
        MendAnothersBreaking y = told("p0;p0;tt00;tt00;tt01;tt01;b00;n1;b02;b13;");
        C.due("his own, NOBODY's are none", y.due(0), 1);
        C.due("his own are none", y.due(1), -1);
    }

    private static void ring() {
        C.about("promise 29");
        String six = "p0;p0;p0;p0;p0;p0;tt00;tt01;tt02;tt03;tt04;tt05;";
        MendAnothersBreaking x = told(six + "b10;b21;b32;b43;b54;");
        for (int person = 0; person < 6; person++) {
            C.due("till there is none", x.ring(person, 0), 6 - person);
            C.due("none comes again", x.ring(person, 1), 0);
        }
        C.due("breaks(0, 5)", x.breaks(0, 5), 0);
        for (int person = 0; person < 6; person++) {
            C.due("all six", x.ring(person, 0), 6);
            C.due("he himself comes again", x.ring(person, 1), 1);
        }
        C.due("ring(6, 0)", x.ring(6, 0), -1);
        C.due("ring(6, 2)", x.ring(6, 2), -1);
        C.due("ring(-1, 0)", x.ring(-1, 0), -1);
        C.due("ring(0, 2)", x.ring(0, 2), -2);
        C.due("ring(0, -1)", x.ring(0, -1), -2);
        MendAnothersBreaking y = told(six + "b10;b21;b32;b23;");
        C.due("another comes again", y.ring(0, 0), 4);
        C.due("another comes again", y.ring(0, 1), 1);
        C.due("two", y.ring(2, 0), 2);
        C.due("two", y.ring(2, 1), 1);
        MendAnothersBreaking z = told("p0;p0;tt00;tt00;b00;n1;");
        C.due("his own breaking, NOBODY's", z.ring(0, 0), 1);
        C.due("his own breaking, NOBODY's", z.ring(0, 1), 0);
        C.due("no THINGS", z.ring(1, 0), 1);
        C.due("no THINGS", z.ring(1, 1), 0);
        C.due("says(1, 1)", z.says(1, 1), 1);
        C.due("his own breaking ahead of it is passed over", z.ring(0, 0), 2);
    }

    private static void arranged() {
        C.about("promise 30");
        MendAnothersBreaking x = told("p0;p0;p0;p0;tt90;tt91;tt90;tt92;tt90;tt93;tt91;tt92;tt93;", "b10;b01;b22;b03;b34;b05;b26;b17;");
        C.due("four twos", x.arranged(0), 4);
        C.due("0 broke three", x.arranged(1), 0);
        C.due("of the one that is WHOLE", x.arranged(2), 3);
        C.due("arranged(3)", x.arranged(3), -2);
        C.due("arranged(-1)", x.arranged(-1), -2);
        MendAnothersBreaking y = told("p0;p0;tt90;tt90;tt81;tt81;b10;b11;n2;");
        C.due("one way alone", y.arranged(0), 0);
        C.due("GUILTY", y.arranged(1), 1);
        C.due("RICHEST", y.arranged(2), 1);
        C.due("breaks(0, 3)", y.breaks(0, 3), 0);
        C.due("a two is one", y.arranged(0), 1);
        C.due("none WHOLE: the least", y.arranged(2), 0);
        MendAnothersBreaking z = told("p0;p0;tt00;n0;");
        C.due("NOBODY is none of PEOPLE", z.arranged(1), -9);
        C.due("says(1, 0)", z.says(1, 0), 1);
        C.due("one", z.arranged(1), 1);
        C.due("FIGURES of nothing", told("p0;p0;").arranged(2), 0);
        C.due("GUILTY of nothing", told("p0;p0;").arranged(1), -9);
        C.due("alike: the least", told("p0;p0;tt90;tt91;b10;b01;").arranged(1), 0);
        C.due("FIGURE 0 alike", told("p0;p0;tt01;").arranged(2), 0);
        C.due("FIGURE 1", told("p0;p0;tt11;").arranged(2), 1);
    }

    private static void two() {
        C.about("promise 31");
        MendAnothersBreaking x = told("p9;p9;p9;p9;p9;p9;tt00;tt05;");
        C.due("two(5, 5, 0)", x.two(5, 5, 0), -1);
        C.due("two(6, 0, 0)", x.two(6, 0, 0), -1);
        C.due("two(0, 6, 100)", x.two(0, 6, 100), -1);
        C.due("two(-1, 0, -1)", x.two(-1, 0, -1), -1);
        C.due("two(0, 0, 100)", x.two(0, 0, 100), -1);
        C.due("two(0, 5, -1)", x.two(0, 5, -1), -4);
        C.due("two(0, 5, 100)", x.two(0, 5, 100), -6);
        C.due("now", x.two(0, 5, 0), 0);
        C.due("behind 99", x.two(5, 0, 99), 0);
        C.due("nothing is broken by it", x.count(3), 3);
        C.due("no THING of either", x.two(1, 2, 9), 0);
        C.due("no THING of the other", x.two(0, 2, 9), 0);
        MendAnothersBreaking none = told("p4;p3;tw30;tg41;b11;b10;");
        C.due("none WHOLE to break", none.two(0, 1, 8), 0);
    }

    /**
     * 1 alone mends the rest, one a DAY: a WHEEL (1) of 0, a WHEEL (2) of 2 and HARD ones behind. A WHEEL mended on DAY 1
     * breaks on DAY 5, one mended on DAY 2 or 3 does not, and each break more leaves the last of 0 or 2 for DAY 6.
     * So 2 would break when 0 does not, 0 then, 2 then not, 0 then not: no pair stays.
     */
    private static void twoWithoutPair() {
        C.about("promise 31: -9");
        MendAnothersBreaking x = told("p0;p9;p0;tt02;tw00;tw02;tt80;tt82;tl02;tt90;b22;b03;b24;b05;b26;");
        C.due("two(0, 2, 5)", x.two(0, 2, 5), -9);
        C.due("two(2, 0, 5)", x.two(2, 0, 5), -9);
        C.due("two(0, 2, 0)", x.two(0, 2, 0), 0);
        C.due("two(0, 2, 1)", x.two(0, 2, 1), 0);
        int[][] whole = {{2, 3}, {1, 4}, {1, 4}, {2, 3}};
        for (int pair = 0; pair < 4; pair++) {
            x.image();
            if (pair / 2 == 1) {
                x.breaks(0, 0);
            }
            if (pair % 2 == 1) {
                x.breaks(2, 1);
            }
            int then = x.wholeThen(5);
            C.due("of 0 by " + pair, Integer.bitCount(then & (2 + 8 + 64)), whole[pair][0]);
            C.due("of 2 by " + pair, Integer.bitCount(then & (1 + 4 + 16 + 32)), whole[pair][1]);
            x.on();
        }
    }
}
