import java.util.Random;

/**
 * Calls with any arguments in any state (the same ones each time), 512 on each object: none throws. Beside it a twin
 * gets only the calls that were not refused, and some of those that only ask: it answers the same, so that what is
 * refused, or only asks, changes nothing.
 */
public final class WildTest extends Dues {
    static int found = 0, ran = 0, refused = 0;
    static final int[] ENDS = {Integer.MIN_VALUE, Integer.MIN_VALUE + 1, -10, -9, -3, -2, -1, 8, 9, 10, 11, 12, 13, 16,
        17, 30, 31, 59, 60, 63, 64, 79, 80, 89, 90, 100, 255, 256, 300, 301, Integer.MAX_VALUE - 1, Integer.MAX_VALUE};
    static final int CLS = 0, METHOD = 1, STEP = 2, WORK = 3, RUN = 4, WAYS = 16;

    static int any(Random r) {
        int way = r.nextInt(12);
        return way == 0 ? ENDS[r.nextInt(ENDS.length)] : way == 1 ? r.nextInt(90) : r.nextInt(5);
    }

    /** A way to call, and what with. */
    record Call(int way, int[] n, long bits) {
        long on(SiteObjects x) {
            switch (way) {
                case CLS: return x.cls(n[0]);
                case METHOD: return x.method(n[0], n[1]);
                case STEP: return x.step(n[0], n[1], n[2], n[3], n[4], n[5]);
                case WORK: return x.work(n[0], n[1], n[2]);
                case RUN: return x.run(bits, n[0]);
                case 5: return x.name(n[0], n[1]);
                case 6: return x.node(n[0], n[1]);
                case 7: return x.held(n[0], n[1]);
                case 8: return x.inside(n[0], n[1]);
                case 9: return x.global(n[0]);
                case 10: return x.leads(n[0], n[1], n[2]);
                case 11: return x.ran(n[0]);
                case 12: return x.object(n[0], n[1]);
                case 13: return x.many(n[0]);
                case 14: return x.count(n[0]);
                default: return x.within(n[0], n[1]);
            }
        }

        String text() {
            return "way " + way + " with " + java.util.Arrays.toString(n) + ", " + bits;
        }
    }

    static Call tell(Random r) {
        int[] n = {any(r), any(r), any(r), any(r), any(r), any(r)};
        int chance = r.nextInt(24);
        int way = chance == 0 ? CLS : chance < 4 ? METHOD : chance < 17 ? STEP : chance < 20 ? WORK : RUN;
        if (way == METHOD && r.nextInt(3) == 0) {
            n[0] = -1;
        }
        if (way == STEP && chance < 16) {
            n[1] = r.nextInt(17);
        }
        if (way == RUN && r.nextBoolean()) {
            n[0] = 300;
        }
        return new Call(way, n, r.nextLong());
    }

    static Call ask(Random r) {
        int way = RUN + 1 + r.nextInt(WAYS - RUN - 1);
        int[] n = {any(r), any(r), any(r)};
        if (way == 11 && r.nextInt(3) == 0) {
            n[0] = 4;
        }
        if (way == 12 && r.nextBoolean()) {
            n[1] = r.nextInt(13);
        }
        if (way == 10) {
            n[1] = r.nextInt(90);
        }
        return new Call(way, n, 0);
    }

    static void tellBoth(String of, SiteObjects x, SiteObjects twin, Call it) {
        long answer = it.on(x);
        if (answer < 0) {
            refused++;
            return;
        }
        due(of + it.text() + " of the twin", it.on(twin), answer);
        found += it.way == WORK ? 1 : 0;
        ran += it.way == RUN ? 1 : 0;
    }

    static void askBoth(String of, SiteObjects x, SiteObjects twin, Call it, boolean isCompared) {
        long answer = it.on(x);
        if (isCompared) {
            due(of + it.text(), answer, it.on(twin));
        }
        if (it.way == 11 && it.n[0] == 4) {
            due(of + "ran(4)", Math.max(0, answer), 0);
        }
    }

    static void round(int seed) {
        Random r = new Random(seed);
        SiteObjects x = new SiteObjects();
        SiteObjects twin = new SiteObjects();
        for (int call = 0; call < 512; call++) {
            String of = "seed " + seed + ", call " + call + ": ";
            if (r.nextInt(5) < (call < 256 ? 4 : 1)) {
                tellBoth(of, x, twin, tell(r));
            } else {
                askBoth(of, x, twin, ask(r), r.nextInt(4) > 0);
            }
        }
    }

    public static void main(String[] args) {
        for (int seed = 0; seed < 1500; seed++) {
            round(seed);
        }
        due("whether much was found", found > 1000 ? 1 : 0, 1);
        due("whether much was run", ran > 1000 ? 1 : 0, 1);
        due("whether much was refused", refused > 1000 ? 1 : 0, 1);
        System.out.println("found " + found + ", ran " + ran + ", refused " + refused);
        end();
    }
}
