import java.util.Random;

/**
 * Calls with any arguments in any state (the same ones each time): none throws, and one that is refused,
 * or only asks, changes nothing.
 */
public final class WildTest {
    static int wrong = 0;
    static int found = 0;
    static final int[] ENDS = {Integer.MIN_VALUE, Integer.MIN_VALUE + 1, -10, -9, -3, -2, -1, 8, 9, 10, 11, 12, 13, 16,
        17, 30, 31, 59, 60, 63, 64, 79, 80, 89, 90, 100, 255, 256, 300, 301, Integer.MAX_VALUE - 1, Integer.MAX_VALUE};

    static void due(String call, long got, long want) {
        if (got != want && wrong++ < 40) {
            System.out.println(call + " answered " + got + ", due is " + want);
        }
    }

    static int any(Random r) {
        int way = r.nextInt(12);
        return way == 0 ? ENDS[r.nextInt(ENDS.length)] : way == 1 ? r.nextInt(90) : r.nextInt(5);
    }

    /** All that can be asked, as one number. */
    static long print(SiteObjects x) {
        long all = 7;
        for (int w = 0; w < 9; w++) {
            all = all * 31 + x.count(w);
            all = all * 31 + x.ran(w);
            all = all * 31 + x.global(w);
        }
        for (int n = 0; n < 81; n++) {
            for (int w = 0; w < 8; w++) {
                all = all * 31 + x.held(n, w);
                all = all * 31 + x.node(n, w);
                all = all * 31 + x.name(n, w);
                all = all * 31 + x.inside(n, w);
            }
            all = all * 31 + x.many(n);
        }
        for (int i = 0; i < 301; i += 1 + i / 20) {
            for (int w = 0; w < 13; w++) {
                all = all * 31 + x.object(i, w);
            }
        }
        for (int s = 0; s < 90; s++) {
            all = all * 31 + x.leads(s % 3, s, 0);
        }
        return all;
    }

    static long tell(SiteObjects x, Random r) {
        int way = r.nextInt(24);
        if (way == 0) {
            return x.cls(any(r));
        }
        if (way < 4) {
            return x.method(r.nextInt(3) == 0 ? -1 : any(r), any(r));
        }
        if (way < 16) {
            return x.step(any(r), r.nextInt(17), any(r), any(r), any(r), any(r));
        }
        if (way < 17) {
            return x.step(any(r), any(r), any(r), any(r), any(r), any(r));
        }
        return way < 20 ? x.work(any(r), any(r), any(r)) : x.run(r.nextLong(), r.nextBoolean() ? 300 : any(r));
    }

    static void ask(SiteObjects x, Random r) {
        x.name(any(r), any(r));
        x.node(any(r), any(r));
        x.held(any(r), any(r));
        x.inside(any(r), any(r));
        x.global(any(r));
        x.leads(any(r), any(r), any(r));
        x.ran(any(r));
        x.object(any(r), any(r));
        x.many(any(r));
        x.count(any(r));
        x.within(any(r), any(r));
    }

    static void round(int seed) {
        Random r = new Random(seed);
        SiteObjects x = new SiteObjects();
        for (int call = 0; call < 512; call++) {
            boolean isLookedAt = r.nextInt(16) == 0;
            long before = isLookedAt ? print(x) : 0;
            long answer = r.nextInt(4) == 0 ? -1 : tell(x, r);
            if (answer == -1) {
                ask(x, r);
            }
            if (isLookedAt && answer < 0) {
                due("seed " + seed + ", call " + call + ": all behind a call that changes nothing", print(x), before);
            }
            if (answer >= 0 && x.count(6) == 1) {
                found++;
                due("seed " + seed + ", call " + call + ": ran(4)", Math.max(0, x.ran(4)), 0);
            }
        }
    }

    public static void main(String[] args) {
        for (int seed = 0; seed < 300; seed++) {
            round(seed);
        }
        due("whether much was found", found > 1000 ? 1 : 0, 1);
        System.out.println(wrong == 0 ? "all answers are as due" : wrong + " answers are not as due");
        if (wrong != 0) {
            System.exit(1);
        }
    }
}
