import java.lang.management.ManagementFactory;
import java.util.ArrayList;
import java.util.List;

/** Any arguments in any state: no call throws, a REFUSAL changes nothing but its count, and few objects are made. */
public final class LimitsTest {
    private static final int[] ANY = {0, 1, -1, 2, 5, 6, 8, 9, 10, 99, 100, 999, 1000, 31, 32, 33, Integer.MAX_VALUE, Integer.MIN_VALUE,
        Integer.MIN_VALUE + 1, 0x55555555, -256};
    private static final String[] LANES = {"", "p0;", "p9;tt00;", "p9;p5;p0;tt00;tk91;tl72;tw11;tc90;tg52;b00;b11;n2;",
        "p9;p8;p7;p6;p5;p4;tt90;tc81;tg72;tw63;tk54;tl45;tt30;tc21;tg12;b00;n3;d60;"};
    private static final Check C = new Check();

    private interface Call {
        long of(MendAnothersBreaking x, int a, int b, int c);
    }

    public static void main(String[] args) {
        anyArguments();
        refusalsChangeNothing();
        fewObjects();
        C.end();
    }

    private static MendAnothersBreaking told(String text) {
        MendAnothersBreaking x = new MendAnothersBreaking();
        for (char c : text.toCharArray()) {
            x.letter(c);
        }
        x.lane();
        return x;
    }

    private static List<Call> calls() {
        List<Call> all = new ArrayList<>();
        all.add((x, a, b, c) -> x.person(a, b));
        all.add((x, a, b, c) -> x.thing(a, b));
        all.add((x, a, b, c) -> x.breaks(a, b));
        all.add((x, a, b, c) -> x.rusts(a));
        all.add((x, a, b, c) -> x.says(a, b));
        all.add((x, a, b, c) -> x.mends(a, b));
        all.add((x, a, b, c) -> x.wears(a, b));
        all.add((x, a, b, c) -> x.skill(a, b));
        all.add((x, a, b, c) -> x.turn(a, b, c));
        all.add((x, a, b, c) -> x.days(a));
        all.add((x, a, b, c) -> x.wholeThen(a));
        all.add((x, a, b, c) -> x.brokenThen(a, b));
        all.add((x, a, b, c) -> x.mendedThen(a));
        all.add((x, a, b, c) -> x.again(a, b));
        all.add((x, a, b, c) -> x.mourned(a));
        all.add((x, a, b, c) -> x.first(a));
        all.add((x, a, b, c) -> x.menders(a));
        all.add((x, a, b, c) -> x.together(a));
        all.add((x, a, b, c) -> x.lost());
        all.add((x, a, b, c) -> x.breaker(a));
        all.add((x, a, b, c) -> x.bestSays(a));
        all.add((x, a, b, c) -> x.confessions());
        all.add((x, a, b, c) -> x.learns(a));
        all.add((x, a, b, c) -> x.missed(a));
        all.add((x, a, b, c) -> Math.max(0, x.due(a)));
        all.add((x, a, b, c) -> x.ring(a, b));
        all.add((x, a, b, c) -> x.arranged(a));
        all.add((x, a, b, c) -> x.two(a, b, c));
        all.add((x, a, b, c) -> x.storm(a, b, c, 0));
        all.add((x, a, b, c) -> x.storm(0, a, b, c));
        all.add((x, a, b, c) -> x.mean(a));
        all.add((x, a, b, c) -> x.whatIs(a, b));
        all.add((x, a, b, c) -> x.row(a));
        all.add((x, a, b, c) -> x.judge());
        all.add((x, a, b, c) -> x.clear());
        all.add((x, a, b, c) -> x.lots(a, b, c));
        all.add((x, a, b, c) -> x.image());
        all.add((x, a, b, c) -> x.on());
        all.add((x, a, b, c) -> x.count(a));
        all.add((x, a, b, c) -> x.letter(a));
        all.add((x, a, b, c) -> x.lane());
        return all;
    }

    private static void anyArguments() {
        C.about("rule 7");
        for (String lane : LANES) {
            MendAnothersBreaking x = told(lane);
            for (Call call : calls()) {
                for (int a : ANY) {
                    for (int b : ANY) {
                        for (int c : b == ANY[0] ? ANY : new int[] {0, 1, 2}) {
                            call.of(x, a, b, c);
                        }
                    }
                }
            }
            C.holds("all calls end", true);
        }
    }

    /** All that can be asked of an object without changing it, but its REFUSALS. */
    private static List<Long> seen(MendAnothersBreaking x) {
        List<Long> all = new ArrayList<>();
        for (int what = 0; what < 8; what++) {
            all.add((long) x.count(what));
        }
        for (int person = 0; person < x.count(0); person++) {
            for (int what = 0; what < 4; what++) {
                all.add((long) x.person(person, what));
            }
        }
        for (int thing = 0; thing < x.count(1); thing++) {
            for (int what = 0; what < 7; what++) {
                all.add((long) x.thing(thing, what));
            }
            all.add((long) x.whatIs(thing, 0));
        }
        return all;
    }

    private static boolean isRefusal(long answer) {
        return answer < 0 && answer >= -6 || answer > 1000000000 && answer <= 1000000006 || answer > 4000000000000000000L;
    }

    private static void refusalsChangeNothing() {
        C.about("REFUSALS");
        for (String lane : LANES) {
            for (Call call : calls().subList(0, 40)) {
                for (int a : ANY) {
                    for (int b : new int[] {0, 1, 100}) {
                        changesNothing(ready(lane), call, a, b);
                    }
                }
            }
        }
    }

    private static MendAnothersBreaking ready(String lane) {
        MendAnothersBreaking x = told(lane);
        x.row(3);
        x.letter('p');
        return x;
    }

    private static void changesNothing(MendAnothersBreaking x, Call call, int a, int b) {
        List<Long> before = seen(x);
        int[] counts = new int[7];
        for (int i = 1; i < 7; i++) {
            counts[i] = x.count(10 + i);
        }
        long answer = call.of(x, a, b, 100);
        if (isRefusal(answer)) {
            counts[answer < 0 ? (int) -answer : (int) (answer % 10)]++;
            C.holds("nothing changes", before.equals(seen(x)));
        }
        for (int i = 1; i < 7; i++) {
            C.due("REFUSALS -" + i, x.count(10 + i), counts[i]);
        }
    }

    private static void fewObjects() {
        C.about("the room");
        com.sun.management.ThreadMXBean heap = (com.sun.management.ThreadMXBean) ManagementFactory.getThreadMXBean();
        long id = Thread.currentThread().getId();
        MendAnothersBreaking x = told(LANES[4]);
        long sum = 0;
        heap.getThreadAllocatedBytes(id);
        long before = heap.getThreadAllocatedBytes(id);
        for (int i = 0; i < 70; i++) {
            sum += x.bestSays(99) + x.storm(1, 7, 20, 1) + x.lots(20, i, 0) + x.together(4) + x.breaker(5) + x.two(0, 1, 99) + x.learns(99);
        }
        long made = heap.getThreadAllocatedBytes(id) - before;
        C.holds("490 calls make next to nothing: " + made + " bytes, " + sum, made < 100000);
    }
}
