import java.util.List;

/** The edges that the document names of a LANE: letters, FAULT of either kind, how many there may be of what. */
public final class LaneEdgesTest {
    private static final String[] STATEMENTS = {"p0;", "tt00;", "b00;", "n0;", "s00;", "w00;", "d01;"};
    private static final String DIGITS = "0123456789";
    private static final String KINDS = "tcgwkl";
    private static final String FIRSTS = "ptbnswd";
    private static final Check C = new Check();

    public static void main(String[] args) {
        letters();
        noStatement();
        wrongLetters();
        lackingLetters();
        kindOneFirst();
        outOfRange();
        nobodyAndNothing();
        notAsItMustBe();
        dayAbove();
        noRoom();
        allAheadOfIt();
        allOrNothing();
        nothingIsCounted();
        fullLanes();
        C.end();
    }

    private static int answer(String text) {
        return Lanes.tell(new MendAnothersBreaking(), text);
    }

    /** The lane has this answer on a new object. */
    private static void holds(String text, int due) {
        C.due("lane of \"" + text + "\"", answer(text), due);
    }

    private static void letters() {
        C.about("letter: how many there are (96 at most; -4; -6)");
        MendAnothersBreaking x = new MendAnothersBreaking();
        C.due("no letters", x.count(7), 0);
        for (int i = 0; i < 96; i++) {
            C.due("letter " + i, x.letter(i == 0 ? 0 : i == 95 ? 255 : 100 + i), i + 1);
        }
        C.due("letter 96", x.letter(100), -6);
        C.due("96 letters", x.count(7), 96);
        C.due("lane()", x.lane(), -1000);
        C.due("are no more", x.count(7), 0);
        C.due("there is room again", x.letter(100), 1);
        C.due("count(16)", x.count(16), 1);
    }

    private static void noStatement() {
        C.about("at least one STATEMENT");
        MendAnothersBreaking x = new MendAnothersBreaking();
        C.due("the end of no letters", x.lane(), -1000);
        C.due("and once more", x.lane(), -1000);
        C.due("behind a lane", Lanes.tell(x, "p0;"), 1);
        C.due("no letters", x.lane(), -1000);
        C.due("what there is stays", x.count(0), 1);
    }

    /** Which letters fit at a place of a STATEMENT. */
    private static String fitting(String statement, int place) {
        if (place == 0) {
            return FIRSTS;
        }
        if (place == statement.length() - 1) {
            return ";";
        }
        return statement.charAt(0) == 't' && place == 1 ? KINDS : DIGITS;
    }

    private static void wrongLetters() {
        C.about("FAULT of kind 1: the first letter with which no LANE can go on");
        for (String statement : STATEMENTS) {
            for (int place = 0; place < statement.length(); place++) {
                String fits = fitting(statement, place);
                for (char c = 0; c < 256; c++) {
                    if (fits.indexOf(c) < 0) {
                        String head = statement.substring(0, place) + c;
                        holds(head, -1000 - place);
                        holds("d01;" + head + statement.substring(place + 1), -1004 - place);
                    } else if (place > 0) {
                        holds(statement.substring(0, place) + c, c == ';' ? answer(statement) : -1001 - place);
                    }
                }
            }
        }
        holds("d01;xx", -1004);
        holds("p0;p;p;", -1004);
    }

    private static void lackingLetters() {
        C.about("FAULT of kind 1: the end, if something lacks");
        for (String statement : STATEMENTS) {
            for (int end = 1; end < statement.length(); end++) {
                holds(statement.substring(0, end), -1000 - end);
                holds("p0;d60;" + statement.substring(0, end), -1007 - end);
            }
        }
        String full = "d01;".repeat(24);
        for (int end = 93; end < 96; end++) {
            holds(full.substring(0, end), -1000 - end);
        }
        holds("p0;" + full.substring(0, 92) + "p", -1096);
        holds("p0;" + full.substring(0, 92) + ";", -1095);
    }

    private static void kindOneFirst() {
        C.about("FAULT: kind 1 else kind 2");
        holds("b99;x", -1004);
        holds("b99;d", -1005);
        holds("d00;d99;n9;p", -1012);
        holds("d00;d99;n9;p0", -1013);
        holds("d00;d99;n9;p0;", -2000);
        holds("p0;d00;d99;", -2003);
    }

    private static void outOfRange() {
        C.about("FAULT of kind 2: a number out of range (DAYS 1 .. 60)");
        for (int n = 0; n < 100; n++) {
            String text = "d" + n / 10 + n % 10 + ";";
            boolean fits = n >= 1 && n <= 60;
            MendAnothersBreaking x = new MendAnothersBreaking();
            C.due(text, Lanes.tell(x, "p0;" + text), fits ? 2 : -2003);
            C.due("DAY behind " + text, x.count(2), fits ? n : 0);
        }
        for (char digit : DIGITS.toCharArray()) {
            holds("p" + digit + ";", 1);
            holds("p0;tt" + digit + "0;", 2);
            holds("p0;tt00;w0" + digit + ";", 3);
        }
    }

    private static void nobodyAndNothing() {
        C.about("FAULT of kind 2: nobody, no such THING so far");
        for (int i = 0; i < 10; i++) {
            boolean first = i == 0;
            holds("p0;tt0" + i + ";", first ? 2 : -2003);
            holds("p0;tt00;b" + i + "0;", first ? 3 : -2008);
            holds("p0;tt00;b0" + i + ";", first ? 3 : -2008);
            holds("p0;tt00;n" + i + ";", first ? 3 : -2008);
            holds("p0;tt00;n0;s" + i + "0;", first ? 4 : -2011);
            holds("p0;tt00;n0;s0" + i + ";", first ? 4 : -2011);
            holds("p0;tt00;w" + i + "0;", first ? 3 : -2008);
        }
        for (String statement : new String[] {"tt00;", "b00;", "n0;", "s00;", "w00;"}) {
            holds(statement, -2000);
            holds("d01;" + statement, -2004);
        }
        String six = "p0;p0;p0;p0;p0;p0;tt05;";
        holds(six + "b50;", 8);
        holds(six + "b60;", -2023);
        holds(six + "n0;s60;", -2026);
        holds(six + "tt06;", -2023);
        String nine = "p0;" + "tt00;".repeat(9);
        holds(nine + "b08;", 11);
        holds(nine + "b09;", -2048);
        holds(nine + "n9;", -2048);
        holds(nine + "w99;", -2048);
        holds(nine + "w89;", 11);
        holds("p0;b00;tt00;", -2003);
        holds("tt00;p0;", -2000);
    }

    private static void notAsItMustBe() {
        C.about("FAULT of kind 2: one not WHOLE (of b, n), one not broken by NOBODY (of s)");
        String one = "p0;p0;tt00;";
        String[] ahead = {"", "b00;", "b10;", "n0;", "n0;s10;"};
        boolean[] whole = {true, false, false, false, false};
        for (int i = 0; i < ahead.length; i++) {
            String text = one + ahead[i];
            int statements = text.replaceAll("[^;]", "").length();
            boolean mourned = i == 3;
            holds(text + "b00;", whole[i] ? statements + 1 : -2000 - text.length());
            holds(text + "b10;", whole[i] ? statements + 1 : -2000 - text.length());
            holds(text + "n0;", whole[i] ? statements + 1 : -2000 - text.length());
            holds(text + "s00;", mourned ? statements + 1 : -2000 - text.length());
            holds(text + "s10;", mourned ? statements + 1 : -2000 - text.length());
            holds(text + "w05;", statements + 1);
        }
    }

    private static MendAnothersBreaking aged(int day) {
        MendAnothersBreaking x = new MendAnothersBreaking();
        for (int left = day; left > 0; left -= 60) {
            x.days(Math.min(60, left));
        }
        C.due("DAY", x.count(2), day);
        return x;
    }

    private static void dayAbove() {
        C.about("FAULT of kind 2: DAY above 999");
        C.due("to 999", Lanes.tell(aged(939), "d60;"), 1);
        C.due("to 1000", Lanes.tell(aged(940), "d60;"), -2000);
        C.due("to 999", Lanes.tell(aged(940), "d59;"), 1);
        C.due("to 999 by and by", Lanes.tell(aged(996), "d01;d01;d01;"), 3);
        C.due("to 1000 by and by", Lanes.tell(aged(996), "d01;d01;d01;d01;"), -2012);
        C.due("to 1000 at once, then less", Lanes.tell(aged(996), "p0;d04;d01;"), -2003);
        MendAnothersBreaking x = aged(999);
        C.due("from 999", Lanes.tell(x, "d01;"), -2000);
        C.due("from 999", Lanes.tell(x, "d60;"), -2000);
        C.due("all else comes", Lanes.tell(x, "p0;tt00;b00;"), 3);
        C.due("DAY", x.count(2), 999);
    }

    private static void noRoom() {
        C.about("FAULT of kind 2: no room for more (6 PEOPLE, 9 THINGS)");
        String six = "p0;p1;p2;p3;p4;p5;";
        holds(six, 6);
        holds(six + "p6;", -2018);
        MendAnothersBreaking x = new MendAnothersBreaking();
        C.due("six", Lanes.tell(x, six), 6);
        C.due("a seventh", Lanes.tell(x, "p6;"), -2000);
        C.due("and nothing with it", Lanes.tell(x, "d01;p6;"), -2004);
        C.due("DAY", x.count(2), 0);
        C.due("count(0)", x.count(0), 6);
        for (int person = 0; person < 6; person++) {
            C.due("SKILL of " + person, x.person(person, 0), person);
        }
        C.due("nobody is the seventh", x.person(6, 0), -1);
        String nine = "tt10;tc20;tg30;tw40;tk50;tl60;tt70;tc80;tg90;";
        holds("p0;" + nine, 10);
        holds("p0;" + nine + "tw00;", -2048);
        C.due("nine", Lanes.tell(x, nine), 9);
        C.due("a tenth", Lanes.tell(x, "tt00;"), -2000);
        C.due("a tenth", Lanes.tell(x, "w01;tt00;"), -2004);
        C.due("WEAR", x.thing(0, 3), 0);
        C.due("count(1)", x.count(1), 9);
        for (int thing = 0; thing < 9; thing++) {
            C.due("KIND of " + thing, x.thing(thing, 0), thing % 6);
            C.due("FIGURE of " + thing, x.thing(thing, 1), thing + 1);
        }
        C.due("no THING is the tenth", x.thing(9, 0), -1);
        MendAnothersBreaking y = new MendAnothersBreaking();
        C.due("five", Lanes.tell(y, "p0;p1;p2;p3;p4;"), 5);
        C.due("two more", Lanes.tell(y, "p5;p6;"), -2003);
        C.due("neither comes", y.count(0), 5);
        C.due("one more", Lanes.tell(y, "p5;"), 1);
        C.due("eight", Lanes.tell(y, nine.substring(5)), 8);
        C.due("two more", Lanes.tell(y, "tt00;tt00;"), -2005);
        C.due("neither comes", y.count(1), 8);
        C.due("one more", Lanes.tell(y, "tt00;"), 1);
    }

    private static void allAheadOfIt() {
        C.about("FAULT of kind 2: behind all ahead of it in the text");
        String wheel = "p9;p9;tw00;";
        holds(wheel + "d03;n0;", 5);
        holds(wheel + "d04;n0;", -2015);
        holds(wheel + "d03;s00;", -2015);
        holds(wheel + "d04;s00;", 5);
        holds(wheel + "w09;d01;s00;", 6);
        holds(wheel + "b00;d01;b00;", 6);
        holds(wheel + "b00;b00;d01;", -2015);
        holds(wheel + "n0;d01;b00;", -2018);
        holds(wheel + "n0;s10;d01;b00;", 7);
        MendAnothersBreaking x = Lanes.told(C, wheel);
        C.due("of an earlier lane, too", Lanes.tell(x, "d04;"), 1);
        C.due("of an earlier lane, too", Lanes.tell(x, "n0;"), -2000);
        C.due("of an earlier lane, too", Lanes.tell(x, "s10;"), 1);
    }

    private static void allOrNothing() {
        C.about("without FAULT all of it comes, with one nothing");
        MendAnothersBreaking x = Lanes.told(C, "p9;p5;tt00;tg01;tw01;b10;n1;d03;");
        List<Long> before = Lanes.seen(x);
        String all = "p3;tl42;s01;w07;b22;d01;";
        for (String fault : new String[] {"d00;", "n9;", "x", "p", "b22"}) {
            C.holds("a FAULT behind all of it", Lanes.tell(x, all + fault) < -1000);
            C.holds("nothing comes", before.equals(Lanes.seen(x)));
        }
        C.due("without", Lanes.tell(x, all), 6);
        C.due("PEOPLE", x.count(0), 3);
        C.due("THINGS", x.count(1), 4);
        C.due("DAY", x.count(2), 4);
        C.due("WEAR", x.thing(0, 3), 8);
        C.due("broken and mended", x.thing(2, 4), -9);
        C.due("said and mended", x.thing(1, 4), -9);
        C.due("the TOOL's WEAR", x.thing(3, 3), 1);
        C.due("MENDED", x.count(5), 3);
    }

    private static void nothingIsCounted() {
        C.about("the FAULT (nothing is counted)");
        MendAnothersBreaking x = new MendAnothersBreaking();
        for (String text : new String[] {"", "x", "p", "d00;", "n0;", "b00;", "tt00;"}) {
            C.holds("a FAULT", Lanes.tell(x, text) <= -1000);
        }
        for (int what = 11; what <= 16; what++) {
            C.due("count(" + what + ")", x.count(what), 0);
        }
    }

    private static void fullLanes() {
        C.about("a LANE of 96 letters");
        holds("p0;".repeat(6) + "tt00;".repeat(9) + "w00;".repeat(8) + "x", -1095);
        holds("p0;".repeat(6) + "tt00;".repeat(9) + "n0;" + "w00;".repeat(7) + "n1", -1096);
        holds("p0;".repeat(6) + "tt00;".repeat(9) + "n0;" + "w00;".repeat(6) + "n1;n2;", 24);
        holds("d01;".repeat(24), 24);
        holds("p0;".repeat(32), -2018);
        holds("p0;" + "tt00;".repeat(9) + "n0;s00;".repeat(6) + "d01;" + "xx", -1094);
    }
}
