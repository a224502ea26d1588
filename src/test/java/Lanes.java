import java.util.ArrayList;
import java.util.List;

/** Tells lanes to objects and writes down all that can be seen of one. */
final class Lanes {
    private Lanes() {
    }

    /** A new object to which a lane without FAULT was told. */
    static MendAnothersBreaking told(Check c, String text) {
        MendAnothersBreaking x = new MendAnothersBreaking();
        int statements = text.length() - text.replace(";", "").length();
        c.due("lane of " + text, tell(x, text), statements);
        return x;
    }

    static int tell(MendAnothersBreaking x, String text) {
        letters(x, text);
        return x.lane();
    }

    static void letters(MendAnothersBreaking x, String text) {
        for (int i = 0; i < text.length(); i++) {
            x.letter(text.charAt(i));
        }
    }

    /** All that can be asked of an object without changing it, but its REFUSALS: some 110 calls at most. */
    static List<Long> seen(MendAnothersBreaking x) {
        List<Long> all = new ArrayList<>();
        for (int what = 0; what < 8; what++) {
            all.add((long) x.count(what));
        }
        for (int person = 0; person < x.count(0); person++) {
            for (int what = 0; what < 2; what++) {
                all.add((long) x.person(person, what));
            }
        }
        for (int thing = 0; thing < x.count(1); thing++) {
            for (int what = 0; what < 5; what++) {
                all.add((long) x.thing(thing, what));
            }
        }
        return all;
    }

    /** REFUSALS -1 to -6, at 1 to 6. */
    static int[] refusals(MendAnothersBreaking x) {
        int[] counts = new int[7];
        for (int i = 1; i < counts.length; i++) {
            counts[i] = x.count(10 + i);
        }
        return counts;
    }
}
