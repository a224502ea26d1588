import java.util.Arrays;

/** Runs of calls drawn by a fixed seed, answered by the program and by the Oracle alike. */
public final class OracleTest {
    private static final String[] NAMES = {"letter", "lane", "person", "thing", "breaks", "rusts", "says", "mends", "wears", "skill",
        "turn", "days", "wholeThen", "brokenThen", "mendedThen", "again", "mourned", "first", "menders", "together", "lost", "breaker",
        "bestSays", "confessions", "learns", "missed", "due", "ring", "arranged", "two", "storm", "mean", "whatIs", "row", "judge",
        "clear", "lots", "image", "on", "count"};
    private static final int[] EDGES = {-1, -2, 10, 16, 17, 20, 21, 60, 61, 96, 97, 99, 100, 255, 256,
        Integer.MIN_VALUE, Integer.MAX_VALUE, -1000000007};
    private static final String KINDS = "tcgwkl";

    private static long seed = 20261118;
    private static final Check C = new Check();

    private static int draw(int below) {
        seed = seed * 6364136223846793005L + 1442695040888963407L;
        return (int) ((seed >>> 33) % below);
    }

    public static void main(String[] args) {
        int runs = args.length > 1 ? Integer.parseInt(args[1]) : 1500;
        for (int run = 0; run < runs; run++) {
            C.about("run " + run);
            run();
        }
        C.end();
    }

    private static void run() {
        MendAnothersBreaking x = new MendAnothersBreaking();
        Oracle o = new Oracle();
        StringBuilder log = new StringBuilder();
        if (draw(12) != 0) {
            tell(x, o, firstLane(), log);
        }
        int calls = 150;
        for (int i = 0; i < calls; i++) {
            if (draw(25) == 0) {
                tell(x, o, laterLane(), log);
            } else {
                call(x, o, 2 + draw(NAMES.length - 2), log);
            }
        }
        for (int what = 0; what < 17; what++) {
            due(log, "count", new int[] {what}, x.count(what), o.count(what));
        }
    }

    private static void due(StringBuilder log, String name, int[] a, long got, long want) {
        log.append(name).append(Arrays.toString(a)).append(' ');
        C.due(name + Arrays.toString(a) + (got == want ? "" : " behind " + log), got, want);
    }

    private static String firstLane() {
        StringBuilder s = new StringBuilder();
        int people = 1 + draw(6);
        int things = draw(10);
        boolean alike = draw(3) == 0;
        for (int p = 0; p < people; p++) {
            s.append('p').append(alike ? 3 + draw(2) : draw(10)).append(';');
        }
        for (int t = 0; t < things; t++) {
            s.append('t').append(KINDS.charAt(draw(6))).append(alike ? 2 + draw(3) : draw(10)).append(draw(people)).append(';');
        }
        while (s.length() < 90 && draw(8) != 0 && things > 0) {
            int thing = draw(things);
            if (s.toString().matches(".*(b.|n|s.)" + thing + ";.*")) {
                continue;
            }
            s.append(switch (draw(5)) {
                case 0, 1, 2 -> "b" + draw(people) + thing + ";";
                case 3 -> "n" + thing + ";";
                default -> "w" + thing + draw(10) + ";";
            });
        }
        return s.length() > 96 ? s.substring(0, 96) : s.toString();
    }

    private static String laterLane() {
        StringBuilder s = new StringBuilder();
        int statements = draw(4) == 0 ? draw(8) : 1 + draw(2);
        for (int i = 0; i < statements; i++) {
            s.append(switch (draw(9)) {
                case 0 -> "p" + draw(10) + ";";
                case 1 -> "t" + KINDS.charAt(draw(6)) + draw(10) + draw(4) + ";";
                case 2, 3 -> "b" + draw(4) + draw(6) + ";";
                case 4 -> "n" + draw(6) + ";";
                case 5 -> "s" + draw(4) + draw(6) + ";";
                case 6 -> "w" + draw(6) + draw(10) + ";";
                case 7 -> "d0" + draw(10) + ";";
                default -> "d" + draw(10) + draw(10) + ";";
            });
        }
        if (draw(5) == 0 && s.length() > 0) {
            int at = draw(s.length());
            switch (draw(3)) {
                case 0 -> s.deleteCharAt(at);
                case 1 -> s.setCharAt(at, "ptbnswdcgkl;0123456789x:/".charAt(draw(25)));
                default -> s.setLength(at);
            }
        }
        return s.toString();
    }

    private static void tell(MendAnothersBreaking x, Oracle o, String text, StringBuilder log) {
        log.append('"').append(text).append('"').append(' ');
        for (int i = 0; i < text.length(); i++) {
            C.due("letter", x.letter(text.charAt(i)), o.letter(text.charAt(i)));
        }
        due(log, "lane", new int[0], x.lane(), o.lane());
    }

    private static int small(int below) {
        return draw(40) == 0 ? EDGES[draw(EDGES.length)] : draw(below);
    }

    private static int ahead() {
        return draw(3) == 0 ? small(100) : small(12);
    }

    private static void call(MendAnothersBreaking x, Oracle o, int which, StringBuilder log) {
        int p = small(draw(4) == 0 ? 7 : 3);
        int q = small(4);
        int t = small(draw(3) == 0 ? 10 : 5);
        int n = ahead();
        int[] one = {p};
        int[] thing = {t};
        String name = NAMES[which];
        switch (name) {
            case "person" -> { int w = small(5); due(log, name, new int[] {p, w}, x.person(p, w), o.person(p, w)); }
            case "thing" -> { int w = small(8); due(log, name, new int[] {t, w}, x.thing(t, w), o.thing(t, w)); }
            case "breaks" -> due(log, name, new int[] {p, t}, x.breaks(p, t), o.breaks(p, t));
            case "rusts" -> due(log, name, thing, x.rusts(t), o.rusts(t));
            case "says" -> due(log, name, new int[] {p, t}, x.says(p, t), o.says(p, t));
            case "mends" -> due(log, name, new int[] {p, t}, x.mends(p, t), o.mends(p, t));
            case "wears" -> { int v = small(10); due(log, name, new int[] {t, v}, x.wears(t, v), o.wears(t, v)); }
            case "skill" -> { int v = small(10); due(log, name, new int[] {p, v}, x.skill(p, v), o.skill(p, v)); }
            case "turn" -> {
                int k = small(6);
                int f = small(10);
                due(log, name, new int[] {t, k, f}, x.turn(t, k, f), o.turn(t, k, f));
            }
            case "days" -> { int d = draw(3) == 0 ? small(61) : draw(4); due(log, name, new int[] {d}, x.days(d), o.days(d)); }
            case "wholeThen" -> due(log, name, new int[] {n}, x.wholeThen(n), o.wholeThen(n));
            case "brokenThen" -> due(log, name, new int[] {t, n}, x.brokenThen(t, n), o.brokenThen(t, n));
            case "mendedThen" -> due(log, name, new int[] {n}, x.mendedThen(n), o.mendedThen(n));
            case "again" -> { int w = small(2); due(log, name, new int[] {t, w}, x.again(t, w), o.again(t, w)); }
            case "mourned" -> { int w = small(2); due(log, name, new int[] {w}, x.mourned(w), o.mourned(w)); }
            case "first" -> { int w = small(2); due(log, name, new int[] {w}, x.first(w), o.first(w)); }
            case "menders" -> due(log, name, thing, x.menders(t), o.menders(t));
            case "together" -> { int w = draw(3) == 0 ? -1 : t; due(log, name, new int[] {w}, x.together(w), o.together(w)); }
            case "lost" -> due(log, name, new int[0], x.lost(), o.lost());
            case "breaker" -> due(log, name, thing, x.breaker(t), o.breaker(t));
            case "bestSays" -> due(log, name, new int[] {n}, x.bestSays(n), o.bestSays(n));
            case "confessions" -> due(log, name, new int[0], x.confessions(), o.confessions());
            case "learns" -> due(log, name, new int[] {n}, x.learns(n), o.learns(n));
            case "missed" -> due(log, name, new int[] {n}, x.missed(n), o.missed(n));
            case "due" -> due(log, name, one, x.due(p), o.due(p));
            case "ring" -> { int w = small(2); due(log, name, new int[] {p, w}, x.ring(p, w), o.ring(p, w)); }
            case "arranged" -> { int w = small(3); due(log, name, new int[] {w}, x.arranged(w), o.arranged(w)); }
            default -> callMore(x, o, which, log);
        }
    }

    private static void callMore(MendAnothersBreaking x, Oracle o, int which, StringBuilder log) {
        int t = small(5);
        int w = small(2);
        String name = NAMES[which];
        switch (name) {
            case "two" -> {
                int a = small(4);
                int b = small(4);
                int n = ahead();
                due(log, name, new int[] {a, b, n}, x.two(a, b, n), o.two(a, b, n));
            }
            case "storm" -> {
                int n = small(8);
                int odds = 2 + small(20);
                due(log, name, new int[] {t, n, odds, w}, x.storm(t, n, odds, w), o.storm(t, n, odds, w));
            }
            case "mean" -> due(log, name, new int[] {w}, x.mean(w), o.mean(w));
            case "whatIs" -> {
                tellTrueRow(x, o, t, log);
                due(log, name, new int[] {t, w}, x.whatIs(t, w), o.whatIs(t, w));
            }
            case "row" -> { int v = small(10); due(log, name, new int[] {v}, x.row(v), o.row(v)); }
            case "judge" -> {
                tellTrueRow(x, o, -1, log);
                due(log, name, new int[0], x.judge(), o.judge());
            }
            case "clear" -> due(log, name, new int[0], x.clear(), o.clear());
            case "lots" -> {
                int n = small(21);
                int z = draw(2) == 0 ? small(1000) : (int) seed;
                due(log, name, new int[] {n, z, w}, x.lots(n, z, w), o.lots(n, z, w));
            }
            case "image" -> due(log, name, new int[0], x.image(), o.image());
            case "on" -> due(log, name, new int[0], x.on(), o.on());
            default -> { int v = small(18); due(log, name, new int[] {v}, x.count(v), o.count(v)); }
        }
    }

    /** A ROW that is mostly as it will be: WEAR of a THING, or (thing -1) how many are WHOLE. */
    private static void tellTrueRow(MendAnothersBreaking x, Oracle o, int thing, StringBuilder log) {
        due(log, "clear", new int[0], x.clear(), o.clear());
        int size = draw(10);
        for (int n = 0; n < size; n++) {
            int v = draw(30) == 0 ? draw(10) : o.ahead(thing, n);
            due(log, "row", new int[] {v}, x.row(v), o.row(v));
        }
    }
}
