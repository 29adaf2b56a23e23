/** For each promise of the document: ordinary inputs, the edges that it names, and wrong inputs. */
public final class PromiseTest extends Dues {

    static void due(int promise, String call, long got, long want) {
        about("Promise " + promise);
        due(call, got, want);
    }

    /** STEPS of one METHOD, each with its kind, a, b, c, d. */
    static void tell(SiteObjects x, int method, int[]... steps) {
        for (int[] s : steps) {
            if (x.step(method, s[0], s[1], s[2], s[3], s[4]) < 0) {
                due(4, "step of kind " + s[0], -1, 0);
            }
        }
    }

    static int[] s(int kind, int a, int b, int c, int d) {
        return new int[] {kind, a, b, c, d};
    }

    static void newObject() {
        SiteObjects x = new SiteObjects();
        int[] counts = {1, 0, 0, 0, 0, 0, 0};
        for (int w = 0; w < 7; w++) {
            due(1, "count(" + w + ")", x.count(w), counts[w]);
        }
        due(1, "ran(0)", x.ran(0), NONE);
        due(1, "object(0, 0)", x.object(0, 0), BAD);
        due(1, "many(0)", x.many(0), STATE);
        due(1, "work(0, 0, 0)", x.work(0, 0, 0), BAD);
        due(1, "BAD", SiteObjects.BAD, -1);
        due(1, "STATE", SiteObjects.STATE, -2);
        due(1, "FULL", SiteObjects.FULL, -3);
        due(1, "NONE", SiteObjects.NONE, -9);
        SiteObjects y = new SiteObjects();
        y.cls(0);
        due(1, "count(0) of another object", x.count(0), 1);
    }

    static void classes() {
        SiteObjects x = new SiteObjects();
        due(2, "cls(-1)", x.cls(-1), BAD);
        due(2, "cls(1)", x.cls(1), BAD);
        due(2, "cls(MIN)", x.cls(Integer.MIN_VALUE), BAD);
        due(2, "cls(MAX)", x.cls(Integer.MAX_VALUE), BAD);
        for (int i = 1; i < 10; i++) {
            due(2, "cls, the " + i + "th", x.cls(i == 5 ? 0 : i - 1), i);
        }
        due(2, "cls(10)", x.cls(10), BAD);
        due(2, "cls(0), the 10th", x.cls(0), FULL);
        due(2, "cls(9), the 10th", x.cls(9), FULL);
        due(2, "count(0)", x.count(0), 10);
        // 0 above 1, 2, 3, 4 in a chain, and above 5, 6, 7, 8, 9 in another one.
        x.method(-1, 0);
        for (int c = 0; c < 10; c++) {
            x.step(0, 0, 2, c, 0, 0);
        }
        for (int c = 0; c < 5; c++) {
            x.step(0, 8, 3, 2, c, 0);
        }
        x.work(0, 0, 0);
        due(2, "held of a CAST to all", x.held(0, 3), 1023);
        SiteObjects y = new SiteObjects();
        for (int i = 1; i < 10; i++) {
            y.cls(i == 5 ? 0 : i - 1);
        }
        y.method(-1, 0);
        for (int c = 0; c < 10; c++) {
            y.step(0, 0, 2, c, 0, 0);
        }
        y.step(0, 8, 3, 2, 3, 0);
        y.step(0, 8, 4, 2, 5, 0);
        y.step(0, 8, 5, 2, 9, 0);
        y.work(0, 0, 0);
        due(2, "held of what lies below 3", y.held(0, 3), 0b11000);
        due(2, "held of what lies below 5", y.held(0, 4), 0b1111100000);
        due(2, "held of what lies below 9", y.held(0, 5), 0b1000000000);
        due(2, "cls refused leaves what is found", y.cls(11), BAD);
        due(2, "count(6)", y.count(6), 1);
        due(2, "cls FULL leaves what is found", y.cls(0), FULL);
        due(2, "count(6)", y.count(6), 1);
    }

    static void methods() {
        SiteObjects x = new SiteObjects();
        due(3, "method(-2, 0)", x.method(-2, 0), BAD);
        due(3, "method(1, 0)", x.method(1, 0), BAD);
        due(3, "method(0, -1)", x.method(0, -1), BAD);
        due(3, "method(0, 8)", x.method(0, 8), BAD);
        due(3, "method(-1, 99)", x.method(-1, 99), 0);
        due(3, "method(-1, MIN)", x.method(-1, Integer.MIN_VALUE), 1);
        due(3, "method(-1, -1)", x.method(-1, -1), 2);
        for (int i = 0; i < 8; i++) {
            due(3, "method(0, " + i + ")", x.method(0, i), 3 + i);
        }
        due(3, "method(0, 3) again", x.method(0, 3), BAD);
        x.cls(0);
        due(3, "method(1, 3)", x.method(1, 3), 11);
        due(3, "method(1, 4), the 13th", x.method(1, 4), FULL);
        due(3, "method(-1, 0), the 13th", x.method(-1, 0), FULL);
        due(3, "method(1, 3) again", x.method(1, 3), BAD);
        due(3, "method(2, 0)", x.method(2, 0), BAD);
        due(3, "method(0, 8)", x.method(0, 8), BAD);
        due(3, "count(1)", x.count(1), 12);
        SiteObjects y = new SiteObjects();
        y.method(-1, 0);
        y.work(0, 0, 0);
        due(3, "method refused", y.method(0, 9), BAD);
        due(3, "count(6) behind it", y.count(6), 1);
        due(3, "method", y.method(0, 0), 1);
        due(3, "count(6) behind it", y.count(6), 0);
    }

    /** Three CLASSES; METHODS 0 and 2 STATIC, 1 not. */
    static SiteObjects small() {
        SiteObjects x = new SiteObjects();
        x.cls(0);
        x.cls(0);
        x.method(-1, 0);
        x.method(0, 0);
        x.method(-1, 0);
        return x;
    }

    static void steps() {
        int[] var = {0, 5}, cls = {0, 2}, field = {0, 3}, place = {0, 7}, length = {0, 5}, selector = {0, 7};
        int[] span = {1, 30}, global = {0, 3}, any = {Integer.MIN_VALUE, Integer.MAX_VALUE};
        int[][][] ranges = {
            {var, cls, any, any}, {var, cls, length, any}, {var, var, any, any}, {var, any, any, any},
            {var, var, field, any}, {var, var, field, any}, {var, var, place, any}, {var, var, place, any},
            {var, var, cls, any}, {var, var, selector, var}, {var, any, new int[] {0, 0}, var}, {var, any, any, any},
            {any, span, any, any}, {var, any, global, any}, {var, any, global, any}, {var, any, any, any},
            {var, span, cls, any}};
        for (int kind = 0; kind < 17; kind++) {
            SiteObjects x = small();
            int told = 0;
            for (int which = 0; which < 4; which++) {
                for (int edge = 0; edge < 2; edge++) {
                    int[] n = new int[4];
                    for (int i = 0; i < 4; i++) {
                        n[i] = ranges[kind][i][0];
                    }
                    int[] range = ranges[kind][which];
                    n[which] = range[edge];
                    String call = "step(0, " + kind + ", " + n[0] + ", " + n[1] + ", " + n[2] + ", " + n[3] + ")";
                    due(4, call, x.step(0, kind, n[0], n[1], n[2], n[3]), told++);
                    if (range == any) {
                        continue;
                    }
                    n[which] += edge == 0 ? -1 : 1;
                    due(4, call + " and beyond", x.step(0, kind, n[0], n[1], n[2], n[3]), BAD);
                    n[which] = edge == 0 ? Integer.MIN_VALUE : Integer.MAX_VALUE;
                    due(4, call + " and far beyond", x.step(0, kind, n[0], n[1], n[2], n[3]), BAD);
                }
            }
            due(4, "count(2)", x.count(2), told);
        }
        SiteObjects x = small();
        due(4, "CALL of a METHOD that is not STATIC", x.step(0, 10, 0, 0, 1, 0), BAD);
        due(4, "CALL of another STATIC METHOD", x.step(0, 10, 0, 0, 2, 0), 0);
        due(4, "step(3, 3, ..)", x.step(3, 3, 0, 0, 0, 0), BAD);
        due(4, "step(-1, 3, ..)", x.step(-1, 3, 0, 0, 0, 0), BAD);
        due(4, "step(0, 17, ..)", x.step(0, 17, 0, 0, 0, 0), BAD);
        due(4, "step(0, -1, ..)", x.step(0, -1, 0, 0, 0, 0), BAD);
    }

    static void fullSteps() {
        SiteObjects x = small();
        for (int i = 0; i < 55; i++) {
            due(4, "maker " + i, x.step(i % 3, i % 2, 0, 0, 0, 0), i);
        }
        due(4, "the 56th MAKE", x.step(0, 0, 0, 0, 0, 0), FULL);
        due(4, "the 56th ROW", x.step(0, 1, 0, 0, 0, 0), FULL);
        due(4, "a wrong ROW", x.step(0, 1, 0, 0, 6, 0), BAD);
        for (int i = 55; i < 90; i++) {
            due(4, "step " + i, x.step(1, 2, 0, 0, 0, 0), i);
        }
        due(4, "the 91st STEP", x.step(1, 2, 0, 0, 0, 0), FULL);
        due(4, "a wrong 91st STEP", x.step(1, 2, 6, 0, 0, 0), BAD);
        x.work(0, 0, 0);
        due(4, "the 91st STEP", x.step(1, 2, 0, 0, 0, 0), FULL);
        due(4, "count(6) behind it", x.count(6), 1);
    }

    /** METHOD 0 CALLS METHOD 1 so often. */
    static SiteObjects calls(int many, int makes) {
        SiteObjects x = new SiteObjects();
        x.method(-1, 0);
        x.method(-1, 0);
        for (int i = 0; i < many; i++) {
            x.step(0, 10, 2, 0, 1, 0);
        }
        for (int i = 0; i < makes; i++) {
            x.step(1, 0, 2, 0, 0, 0);
        }
        return x;
    }

    static SiteObjects selfCalls(int many) {
        SiteObjects x = new SiteObjects();
        x.method(-1, 0);
        for (int i = 0; i < many; i++) {
            x.step(0, 10, 2, 0, 0, 0);
        }
        return x;
    }

    static void work() {
        SiteObjects x = small();
        due(5, "work(1, 0, 0)", x.work(1, 0, 0), BAD);
        due(5, "work(3, 0, 0)", x.work(3, 0, 0), BAD);
        due(5, "work(-1, 0, 0)", x.work(-1, 0, 0), BAD);
        due(5, "work(0, 3, 0)", x.work(0, 3, 0), BAD);
        due(5, "work(0, -1, 0)", x.work(0, -1, 0), BAD);
        due(5, "work(0, 0, 3)", x.work(0, 0, 3), BAD);
        due(5, "work(0, 0, -1)", x.work(0, 0, -1), BAD);
        due(5, "count(6)", x.count(6), 0);
        due(5, "work(2, 2, 2)", x.work(2, 2, 2), 2);
        due(5, "node(0, 0)", x.node(0, 0), 2);
        due(5, "count(5)", x.count(5), 1);
        x.run(0, 1);
        due(5, "work(1, 0, 0)", x.work(1, 0, 0), BAD);
        due(5, "ran(0) behind a work() that was refused", x.ran(0), 0);
        due(5, "work(0, 0, 0)", x.work(0, 0, 0), 0);
        due(5, "ran(0) behind work()", x.ran(0), NONE);
        due(5, "80 NODES", calls(79, 0).work(0, 0, 1), 1);
        due(5, "80 NODES, DEPTH 2", calls(79, 0).work(0, 0, 2), 2);
        due(5, "81 NODES", calls(80, 0).work(0, 0, 1), 0);
        due(5, "81 NODES, DEPTH 2", calls(80, 0).work(0, 2, 2), 0);
        due(5, "81 NODES that are 2", calls(80, 0).work(0, 1, 2), 2);
        due(5, "60 NAMES", calls(10, 6).work(0, 0, 1), 1);
        SiteObjects y = calls(10, 6);
        y.step(0, 0, 2, 0, 0, 0);
        due(5, "61 NAMES", y.work(0, 0, 1), 0);
        due(5, "7 NAMES", y.count(4), 7);
        due(5, "2 NODES", y.count(3), 2);
        due(5, "73 NODES", selfCalls(8).work(0, 0, 2), 2);
        SiteObjects z = selfCalls(9);
        due(5, "91 NODES", z.work(0, 0, 2), 1);
        due(5, "10 NODES", z.count(3), 10);
        due(5, "count(5)", z.count(5), 2);
        due(5, "node(0, 4)", z.node(0, 4), 0);
        due(5, "node(9, 1)", z.node(9, 1), 8);
        due(5, "node(9, 4)", z.node(9, 4), 10);
    }

    /**
     * CLASS 1 below 0. METHOD 0: NAME 0 of CLASS 1 and the ROW 1 are made, METHOD 1 is called twice with each;
     * it makes NAMES of CLASS 0 and stores its ARGUMENT there.
     */
    static SiteObjects twice() {
        SiteObjects x = new SiteObjects();
        x.cls(0);
        x.method(-1, 0);
        x.method(-1, 0);
        tell(x, 0, s(0, 2, 1, 0, 0), s(1, 3, 1, 3, 0), s(10, 4, 0, 1, 2), s(10, 5, 0, 1, 3), s(7, 3, 2, 0, 0));
        tell(x, 1, s(0, 2, 0, 0, 0), s(5, 2, 1, 3, 0), s(13, 2, 0, 1, 0), s(11, 2, 0, 0, 0));
        return x;
    }

    static void names() {
        SiteObjects x = twice();
        due(6, "name(0, 5)", x.name(0, 5), BAD);
        due(6, "name(0, -1)", x.name(0, -1), BAD);
        due(6, "name(0, 0)", x.name(0, 0), STATE);
        due(6, "name(99, 0)", x.name(99, 0), STATE);
        due(6, "name(-1, 0)", x.name(-1, 0), STATE);
        x.work(0, 0, 1);
        due(6, "name(0, 5)", x.name(0, 5), BAD);
        due(6, "name(4, 0)", x.name(4, 0), BAD);
        due(6, "name(-1, 0)", x.name(-1, 0), BAD);
        int[][] want = {{0, 1, 0, 0, 1}, {1, 1, 1, 0, 1}, {5, 0, 0, 1, 1}, {5, 0, 0, 2, 1}};
        for (int m = 0; m < 4; m++) {
            for (int w = 0; w < 5; w++) {
                due(6, "name(" + m + ", " + w + ")", x.name(m, w), want[m][w]);
            }
        }
        x.work(0, 1, 1);
        due(6, "count(4)", x.count(4), 3);
        due(6, "name(2, 3)", x.name(2, 3), 1);
        due(6, "name(2, 4): two STEPS lead to its NODE", x.name(2, 4), 0);
        due(6, "name(0, 4)", x.name(0, 4), 1);
    }

    /** METHOD 0 asks an OBJECT that METHOD 1 (STATIC, called) made; METHOD 2 is of CLASS 0 and calls METHOD 3. */
    static SiteObjects chain() {
        SiteObjects x = new SiteObjects();
        x.method(-1, 0);
        x.method(-1, 0);
        x.method(0, 0);
        x.method(-1, 0);
        tell(x, 0, s(10, 2, 0, 1, 0), s(9, 3, 2, 0, 2));
        tell(x, 1, s(0, 2, 0, 0, 0), s(11, 2, 0, 0, 0));
        tell(x, 2, s(10, 2, 0, 3, 0));
        tell(x, 3, s(9, 2, 1, 1, 1));
        return x;
    }

    static void contexts(SiteObjects x, int mode, int depth, int[][] want) {
        due(7, "work(0, " + mode + ", " + depth + ")", x.work(0, mode, depth), depth);
        due(7, "count(3)", x.count(3), want.length);
        for (int n = 0; n < want.length; n++) {
            for (int w = 0; w < 3; w++) {
                due(7, "MODE " + mode + ", " + depth + ": node(" + n + ", " + w + ")", x.node(n, w), want[n][w]);
            }
        }
    }

    static void nodes() {
        SiteObjects x = chain();
        due(7, "node(0, 5)", x.node(0, 5), BAD);
        due(7, "node(0, -1)", x.node(0, -1), BAD);
        due(7, "node(0, 0)", x.node(0, 0), STATE);
        due(7, "node(-1, 0)", x.node(-1, 0), STATE);
        due(7, "node(99, 4)", x.node(99, 4), STATE);
        for (int mode = 0; mode < 3; mode++) {
            contexts(x, mode, 0, new int[][] {{0, NONE, NONE}, {1, NONE, NONE}, {2, NONE, NONE}, {3, NONE, NONE}});
        }
        // The OBJECT comes in the second round, behind the NODE of METHOD 1.
        contexts(x, 0, 1, new int[][] {{0, NONE, NONE}, {1, 0, NONE}, {2, 1, NONE}, {3, 4, NONE}});
        contexts(x, 0, 2, new int[][] {{0, NONE, NONE}, {1, 0, NONE}, {2, 1, NONE}, {3, 4, 1}});
        contexts(x, 1, 1, new int[][] {{0, NONE, NONE}, {1, NONE, NONE}, {2, 102, NONE}, {3, 102, NONE}});
        contexts(x, 1, 2, new int[][] {{0, NONE, NONE}, {1, NONE, NONE}, {2, 102, NONE}, {3, 102, NONE}});
        contexts(x, 2, 1, new int[][] {{0, NONE, NONE}, {1, 0, NONE}, {2, 102, NONE}, {3, 4, NONE}});
        contexts(x, 2, 2, new int[][] {{0, NONE, NONE}, {1, 0, NONE}, {2, 102, 0}, {3, 4, 102}});
        due(7, "node(4, 0)", x.node(4, 0), BAD);
        due(7, "node(-1, 0)", x.node(-1, 0), BAD);
        for (int n = 0; n < 4; n++) {
            due(7, "node(" + n + ", 3)", x.node(n, 3), 1);
            due(7, "node(" + n + ", 4)", x.node(n, 4), n == 0 ? 0 : 1);
        }
        SiteObjects y = calls(2, 0);
        y.method(-1, 0);
        y.step(1, 10, 2, 0, 2, 0);
        y.work(0, 0, 0);
        due(7, "node(1, 4)", y.node(1, 4), 2);
        due(7, "node(1, 3)", y.node(1, 3), 0);
        due(7, "node(2, 4)", y.node(2, 4), 1);
        due(7, "node(2, 3): its leader is not ONCE", y.node(2, 3), 0);
        SiteObjects z = selfCalls(1);
        z.work(0, 0, 0);
        due(7, "node(0, 4)", z.node(0, 4), 1);
        due(7, "node(0, 3): a STEP leads to it", z.node(0, 3), 0);
    }

    static void held() {
        SiteObjects x = twice();
        due(8, "held(0, 8)", x.held(0, 8), -1);
        due(8, "held(0, -1)", x.held(0, -1), -1);
        due(8, "held(0, 0)", x.held(0, 0), -2);
        due(8, "held(-1, 0)", x.held(-1, 0), -2);
        x.work(0, 0, 1);
        due(8, "held(3, 0)", x.held(3, 0), -1);
        due(8, "held(-1, 0)", x.held(-1, 0), -1);
        long[][] want = {{0, 0, 1, 2, 4, 8, 0, 0}, {0, 1, 4, 0, 0, 0, 4, 0}, {0, 2, 8, 0, 0, 0, 8, 0}};
        for (int n = 0; n < 3; n++) {
            for (int v = 0; v < 8; v++) {
                due(8, "held(" + n + ", " + v + ")", x.held(n, v), want[n][v]);
            }
        }
        x.work(0, 1, 2);
        due(8, "held(1, 1) of one NODE for both", x.held(1, 1), 3);
        SiteObjects y = calls(10, 6);
        y.work(0, 0, 1);
        due(8, "held(10, 2), NAMES 54 .. 59", y.held(10, 2), 63L << 54);
        guards();
    }

    /** The RAISED goes by the latest GUARD first; what that leaves to the next; the rest out of the NODE. */
    static void guards() {
        SiteObjects x = new SiteObjects();
        x.cls(0);
        x.cls(1);
        x.method(-1, 0);
        tell(x, 0, s(0, 0, 0, 0, 0), s(0, 0, 1, 0, 0), s(0, 0, 2, 0, 0), s(16, 1, 3, 1, 0), s(16, 2, 2, 2, 0),
            s(3, 5, 0, 0, 0), s(15, 0, 0, 0, 0), s(3, 5, 0, 0, 0));
        x.work(0, 0, 0);
        due(8, "held by the first GUARD", x.held(0, 1), 2);
        due(8, "held by the latest GUARD", x.held(0, 2), 4);
        due(8, "held as RAISED", x.held(0, 7), 1);
        SiteObjects y = new SiteObjects();
        y.method(-1, 0);
        tell(y, 0, s(0, 0, 0, 0, 0), s(16, 1, 1, 0, 0), s(3, 5, 0, 0, 0), s(15, 0, 0, 0, 0), s(16, 2, 30, 0, 0));
        y.work(0, 0, 0);
        due(8, "held by a GUARD that ends ahead", y.held(0, 1), 0);
        due(8, "held by a GUARD that comes behind", y.held(0, 2), 0);
        due(8, "held as RAISED", y.held(0, 7), 1);
        SiteObjects z = new SiteObjects();
        z.cls(0);
        z.method(-1, 0);
        z.method(-1, 0);
        z.method(0, 0);
        tell(z, 0, s(0, 0, 0, 0, 0), s(0, 0, 1, 0, 0), s(16, 1, 2, 1, 0), s(10, 2, 0, 1, 0), s(9, 2, 0, 0, 0));
        tell(z, 1, s(15, 1, 0, 0, 0));
        tell(z, 2, s(15, 0, 0, 0, 0), s(11, 0, 0, 0, 0));
        z.work(0, 0, 0);
        due(8, "held by a GUARD of what was called", z.held(0, 1), 2);
        due(8, "held as RAISED by both", z.held(0, 7), 1);
        due(8, "held as given behind a RAISE", z.held(0, 2), 3);
    }

    static void inside() {
        SiteObjects x = twice();
        due(9, "inside(0, 5)", x.inside(0, 5), -1);
        due(9, "inside(0, -1)", x.inside(0, -1), -1);
        due(9, "inside(0, 0)", x.inside(0, 0), -2);
        due(9, "inside(-1, 0)", x.inside(-1, 0), -2);
        x.work(0, 0, 1);
        due(9, "inside(4, 0)", x.inside(4, 0), -1);
        due(9, "inside(-1, 0)", x.inside(-1, 0), -1);
        long[][] want = {{0, 0, 0, 0, 0}, {0, 0, 0, 0, 1}, {0, 0, 0, 1, 0}, {0, 0, 0, 2, 0}};
        for (int m = 0; m < 4; m++) {
            for (int f = 0; f < 5; f++) {
                due(9, "inside(" + m + ", " + f + ")", x.inside(m, f), want[m][f]);
            }
        }
        // STORE in a ROW and LAY in what is none put nothing there; a ROW takes what lies below its CLASS.
        SiteObjects y = new SiteObjects();
        y.cls(0);
        y.method(-1, 0);
        tell(y, 0, s(1, 0, 1, 2, 0), s(0, 0, 0, 0, 0), s(0, 0, 1, 0, 0), s(5, 0, 0, 2, 0), s(7, 0, 0, 7, 0),
            s(4, 2, 0, 2, 0), s(6, 3, 0, 1, 0), s(4, 4, 0, 3, 0));
        y.work(0, 2, 2);
        due(9, "inside(0, 2) of a ROW", y.inside(0, 2), 0);
        due(9, "inside(0, 4) of a ROW", y.inside(0, 4), 4);
        due(9, "inside(1, 2)", y.inside(1, 2), 7);
        due(9, "inside(2, 2)", y.inside(2, 2), 7);
        due(9, "inside(1, 4) of no ROW", y.inside(1, 4), 0);
        due(9, "held(0, 2), loaded", y.held(0, 2), 7);
        due(9, "held(0, 3), taken", y.held(0, 3), 4);
        due(9, "held(0, 4), another FIELD", y.held(0, 4), 0);
    }

    static void globals() {
        SiteObjects x = twice();
        due(10, "global(-1)", x.global(-1), -1);
        due(10, "global(4)", x.global(4), -1);
        due(10, "global(0)", x.global(0), -2);
        x.step(0, 14, 0, 0, 1, 0);
        x.step(0, 14, 1, 0, 0, 0);
        x.work(0, 0, 1);
        long[] want = {0, 12, 0, 0};
        for (int g = 0; g < 4; g++) {
            due(10, "global(" + g + ")", x.global(g), want[g]);
        }
        due(10, "held(0, 0), got", x.held(0, 0), 12);
        due(10, "held(0, 1), got of another one", x.held(0, 1), 0);
        due(10, "global(4)", x.global(4), -1);
        x.cls(0);
        due(10, "global(1) behind a change", x.global(1), -2);
        x.work(1, 0, 1);
        due(10, "global(1), of METHOD 1 alone", x.global(1), 1);
        due(10, "global(3)", x.global(3), 0);
    }

    static void leads() {
        SiteObjects x = new SiteObjects();
        x.cls(0);
        x.cls(1);
        x.method(-1, 0);
        x.method(1, 7);
        x.method(2, 7);
        x.method(-1, 0);
        tell(x, 0, s(0, 0, 0, 0, 0), s(0, 0, 2, 0, 0), s(0, 0, 1, 0, 0), s(1, 0, 2, 1, 0), s(9, 3, 0, 7, 0),
            s(9, 3, 0, 6, 0), s(10, 3, 0, 3, 0));
        tell(x, 3, s(9, 1, 1, 7, 1));
        due(11, "leads(0, 3, 0)", x.leads(0, 3, 0), BAD);
        due(11, "leads(0, 8, 0)", x.leads(0, 8, 0), BAD);
        due(11, "leads(0, -1, 0)", x.leads(0, -1, 0), BAD);
        due(11, "leads(0, 3, -1)", x.leads(0, 3, -1), BAD);
        due(11, "leads(0, 4, -1)", x.leads(0, 4, -1), STATE);
        due(11, "leads(0, 4, MIN)", x.leads(0, 4, Integer.MIN_VALUE), STATE);
        due(11, "leads(0, 4, 0)", x.leads(0, 4, 0), STATE);
        due(11, "leads(0, 7, 0), of another METHOD", x.leads(0, 7, 0), STATE);
        due(11, "leads(-1, 4, 0)", x.leads(-1, 4, 0), STATE);
        x.work(0, 0, 0);
        // NAME 1 has the METHOD of CLASS 2, NAME 2 that of CLASS 1; NAME 0 and the ROW have none.
        due(11, "leads(0, 4, 0)", x.leads(0, 4, 0), 1);
        due(11, "node(1, 0)", x.node(1, 0), 2);
        due(11, "leads(0, 4, 1)", x.leads(0, 4, 1), 2);
        due(11, "node(2, 0)", x.node(2, 0), 1);
        due(11, "leads(0, 4, 2)", x.leads(0, 4, 2), NONE);
        due(11, "leads(0, 4, MAX)", x.leads(0, 4, Integer.MAX_VALUE), NONE);
        due(11, "leads(0, 4, -1)", x.leads(0, 4, -1), NONE);
        due(11, "leads(0, 4, MIN)", x.leads(0, 4, Integer.MIN_VALUE), NONE);
        due(11, "leads(0, 6, -1)", x.leads(0, 6, -1), NONE);
        due(11, "leads(0, 5, 0)", x.leads(0, 5, 0), NONE);
        due(11, "leads(0, 6, 0)", x.leads(0, 6, 0), 3);
        due(11, "leads(0, 6, 1)", x.leads(0, 6, 1), NONE);
        due(11, "leads(0, 7, 0), of another METHOD", x.leads(0, 7, 0), BAD);
        due(11, "leads(3, 7, 0)", x.leads(3, 7, 0), 1);
        due(11, "leads(3, 7, 1)", x.leads(3, 7, 1), 2);
        due(11, "leads(4, 4, 0)", x.leads(4, 4, 0), BAD);
        due(11, "leads(4, 4, -1)", x.leads(4, 4, -1), BAD);
        due(11, "leads(0, 7, -1), of another METHOD", x.leads(0, 7, -1), BAD);
        due(11, "leads(0, 0, -1)", x.leads(0, 0, -1), BAD);
        due(11, "leads(-1, 4, 0)", x.leads(-1, 4, 0), BAD);
        due(11, "leads(0, 0, 0)", x.leads(0, 0, 0), BAD);
        due(11, "node(1, 4)", x.node(1, 4), 2);
        SiteObjects y = selfCalls(8);
        y.work(0, 0, 2);
        due(11, "leads(72, 7, 0), a NODE beyond 63", y.leads(72, 7, 0), 72);
        due(11, "leads(72, 7, 1)", y.leads(72, 7, 1), NONE);
    }

    /** What a run of such STEPS answers, and the STEP at which it failed. */
    static void fails(String what, int failure, int at, int[]... steps) {
        SiteObjects x = new SiteObjects();
        x.cls(0);
        x.cls(0);
        x.method(-1, 0);
        x.method(1, 0);
        tell(x, 0, steps);
        x.step(1, 15, 1, 0, 0, 0);
        x.work(0, 1, 1);
        due(12, what, x.run(0, 300), failure);
        due(12, what + ", ran(0)", x.ran(0), failure);
        due(12, what + ", ran(6)", x.ran(6), at);
    }

    static void failures() {
        int[] make0 = s(0, 2, 0, 0, 0), make1 = s(0, 3, 1, 0, 0), row1 = s(1, 4, 1, 2, 0);
        fails("LOAD of NOTHING", 1, 0, s(4, 0, 1, 0, 0));
        fails("STORE in NOTHING", 1, 0, s(5, 0, 1, 0, 0));
        fails("TAKE of NOTHING", 1, 0, s(6, 0, 1, 7, 0));
        fails("LAY in NOTHING", 1, 0, s(7, 0, 1, 7, 0));
        fails("ASK of NOTHING", 1, 0, s(9, 0, 1, 7, 0));
        fails("RAISE of NOTHING", 1, 1, s(16, 0, 9, 0, 0), s(15, 0, 0, 0, 0));
        fails("LOAD of a ROW", 2, 1, row1, s(4, 0, 4, 0, 0));
        fails("STORE in a ROW", 2, 1, row1, s(5, 4, 0, 0, 0));
        fails("TAKE of no ROW", 2, 1, make0, s(6, 0, 2, 7, 0));
        fails("LAY in no ROW", 2, 1, make0, s(7, 2, 2, 7, 0));
        fails("TAKE of no PLACE", 3, 1, row1, s(6, 0, 4, 2, 0));
        fails("TAKE of the last PLACE", 0, NONE, row1, s(6, 0, 4, 1, 0));
        fails("LAY in no PLACE, of what does not fit", 3, 2, row1, make0, s(7, 4, 2, 2, 0));
        fails("LAY of what does not fit", 4, 2, row1, make0, s(7, 4, 2, 1, 0));
        fails("LAY of what fits", 0, NONE, row1, make1, s(7, 4, 3, 1, 0));
        fails("LAY of NOTHING", 0, NONE, row1, s(7, 4, 5, 1, 0));
        fails("LAY of a ROW in itself", 4, 1, row1, s(7, 4, 4, 1, 0));
        fails("LAY of a ROW in a ROW of CLASS 0", 0, NONE, row1, s(1, 2, 0, 1, 0), s(7, 2, 4, 0, 0));
        fails("CAST to what it does not lie below", 5, 1, make0, s(8, 0, 2, 1, 0));
        fails("CAST to one beside it", 5, 1, make1, s(8, 0, 3, 2, 0));
        fails("CAST to itself and above", 0, NONE, make1, s(8, 0, 3, 1, 0), s(8, 0, 3, 0, 0));
        fails("CAST of NOTHING", 0, NONE, s(8, 0, 3, 1, 0));
        fails("CAST of a ROW to its CLASS", 5, 1, row1, s(8, 0, 4, 1, 0));
        fails("ASK without a METHOD", 6, 1, make0, s(9, 0, 2, 0, 0));
        fails("ASK with another SELECTOR", 6, 1, make1, s(9, 0, 3, 1, 0));
        fails("RAISE that nothing takes", 7, 1, make0, s(15, 2, 0, 0, 0));
        fails("RAISE in what is asked", 7, 3, make0, make1, s(9, 0, 3, 0, 2));
        fails("RAISE beside a GUARD of another CLASS", 7, 2, s(16, 0, 2, 1, 0), make0, s(15, 2, 0, 0, 0));
        fails("CALL of itself", 8, 0, s(10, 0, 0, 0, 0));
        fails("nothing", 0, NONE);
    }

    static void run() {
        failures();
        SiteObjects x = selfCalls(1);
        due(12, "run(0, 0)", x.run(0, 0), BAD);
        due(12, "run(0, 301)", x.run(0, 301), BAD);
        due(12, "run(0, -1)", x.run(0, -1), BAD);
        due(12, "run(0, 1)", x.run(0, 1), STATE);
        x.work(0, 0, 0);
        due(12, "run(0, 0)", x.run(0, 0), BAD);
        due(12, "run(0, 301)", x.run(0, 301), BAD);
        due(12, "25 METHODS within one another, then DEEP", x.run(0, 25), 8);
        due(12, "ran(1)", x.ran(1), 25);
        due(12, "ran(5)", x.ran(5), 25);
        due(12, "SPENT ahead of DEEP", x.run(0, 24), 9);
        due(12, "ran(1)", x.ran(1), 24);
        due(12, "ran(5)", x.ran(5), 25);
        due(12, "ran(6)", x.ran(6), 0);
        SiteObjects y = calls(4, 0);
        for (int i = 0; i < 74; i++) {
            y.step(1, 3, 0, 0, 0, 0);
        }
        y.work(0, 0, 0);
        due(12, "just as many STEPS as there are", y.run(0, 300), 0);
        due(12, "ran(1)", y.ran(1), 300);
        due(12, "one STEP fewer", y.run(0, 299), 9);
        due(12, "ran(6)", y.ran(6), 77);
        y.step(1, 3, 0, 0, 0, 0);
        due(12, "run behind a change", y.run(0, 300), STATE);
        y.work(0, 0, 0);
        due(12, "more STEPS than there are", y.run(0, 300), 9);
        ways();
    }

    /** MAYBE and GUARD. */
    static void ways() {
        SiteObjects x = new SiteObjects();
        x.method(-1, 0);
        for (int i = 0; i < 90; i++) {
            x.step(0, 12, 99, 1, 99, 99);
        }
        x.work(0, 0, 0);
        due(12, "run(0, 300)", x.run(0, 300), 0);
        due(12, "ran(8)", x.ran(8), 90);
        x.run(1, 300);
        due(12, "ran(8), one passed over", x.ran(8), 89);
        x.run(Long.MIN_VALUE, 300);
        due(12, "ran(8), the 64th bit", x.ran(8), 89);
        x.run(-1, 300);
        due(12, "ran(8), each one passes over", x.ran(8), 45);
        SiteObjects y = new SiteObjects();
        y.cls(0);
        y.method(-1, 0);
        // The first MAYBE may pass over the GUARD of CLASS 1: it guards nevertheless.
        tell(y, 0, s(0, 0, 1, 0, 0), s(12, 0, 1, 0, 0), s(16, 1, 2, 1, 0), s(16, 2, 1, 0, 0), s(15, 0, 0, 0, 0),
            s(11, 1, 0, 0, 0));
        y.work(0, 0, 0);
        due(12, "run(1, 300)", y.run(1, 300), 0);
        due(12, "ran(7): the latest GUARD took it, so VAR 1 is NOTHING", y.ran(7), NONE);
        due(12, "ran(1)", y.ran(1), 5);
        SiteObjects z = new SiteObjects();
        z.cls(0);
        z.method(-1, 0);
        tell(z, 0, s(0, 0, 0, 0, 0), s(12, 0, 1, 0, 0), s(16, 1, 2, 0, 0), s(16, 2, 1, 1, 0), s(15, 0, 0, 0, 0),
            s(11, 1, 0, 0, 0));
        z.work(0, 0, 0);
        z.run(1, 300);
        due(12, "ran(7): the latest GUARD that fits", z.ran(7), 0);
        due(12, "ran(1), the GUARD passed over", z.ran(1), 5);
        SiteObjects w = new SiteObjects();
        w.method(-1, 0);
        tell(w, 0, s(16, 1, 30, 0, 0), s(0, 0, 0, 0, 0), s(15, 0, 0, 0, 0), s(11, 1, 0, 0, 0));
        w.work(0, 0, 0);
        due(12, "a GUARD to beyond the end", w.run(0, 300), 0);
        due(12, "ran(7)", w.ran(7), NONE);
        due(12, "ran(3)", w.ran(3), 2);
    }

    static void ran() {
        SiteObjects x = twice();
        due(13, "ran(-1)", x.ran(-1), BAD);
        due(13, "ran(9)", x.ran(9), BAD);
        due(13, "ran(0)", x.ran(0), NONE);
        x.run(0, 300);
        due(13, "ran(0) behind a run that was refused", x.ran(0), NONE);
        x.work(0, 0, 1);
        due(13, "ran(8) behind work()", x.ran(8), NONE);
        x.run(0, 300);
        // 2 made; each call: argument, made, stored, put, given; the LAY.
        int[] want = {0, 13, 4, 2 + 2 * 5 + 1, 0, 2, NONE, NONE, 0};
        for (int w = 0; w < 9; w++) {
            due(13, "ran(" + w + ")", x.ran(w), want[w]);
        }
        x.run(0, 0);
        due(13, "ran(1) behind a run that was refused", x.ran(1), 13);
        x.run(0, 3);
        int[] spent = {9, 3, 2, 3, 0, 2, 5, NONE, 0};
        for (int w = 0; w < 9; w++) {
            due(13, "SPENT: ran(" + w + ")", x.ran(w), spent[w]);
        }
        due(13, "ran(9)", x.ran(9), BAD);
        x.method(-1, 0);
        due(13, "ran(0) behind a change", x.ran(0), NONE);
        raised();
    }

    static void raised() {
        SiteObjects x = new SiteObjects();
        x.method(-1, 0);
        x.method(-1, 0);
        tell(x, 0, s(0, 0, 0, 0, 0), s(0, 2, 0, 0, 0), s(10, 3, 0, 1, 2), s(11, 2, 0, 0, 0));
        tell(x, 1, s(12, 0, 1, 0, 0), s(15, 1, 0, 0, 0), s(3, 1, 0, 0, 0));
        x.work(0, 0, 0);
        due(13, "run(0, 300)", x.run(0, 300), 7);
        due(13, "RAISED: ran(6)", x.ran(6), 5);
        due(13, "RAISED: ran(7)", x.ran(7), 1);
        due(13, "RAISED: ran(3)", x.ran(3), 3);
        due(13, "run(1, 300)", x.run(1, 300), 0);
        due(13, "given: ran(6)", x.ran(6), NONE);
        due(13, "given: ran(7)", x.ran(7), 1);
        due(13, "ran(8)", x.ran(8), 1);
        SiteObjects y = chain();
        y.work(0, 2, 2);
        due(13, "ASK without a METHOD, three deep", y.run(0, 300), 6);
        due(13, "ran(5)", y.ran(5), 3);
        due(13, "ran(6)", y.ran(6), 5);
        due(13, "HOLDS: made, given, RECEIVER, ARGUMENT of both", y.ran(3), 5);
        due(13, "ran(4)", y.ran(4), 0);
    }

    static void objects() {
        SiteObjects x = twice();
        due(14, "object(0, 0) without a run", x.object(0, 0), BAD);
        x.work(0, 0, 1);
        due(14, "object(0, 0) without a run", x.object(0, 0), BAD);
        x.run(0, 300);
        int[][] want = {{0, 0, 0, 1, NONE, NONE, NONE, NONE, NONE, NONE, NONE, NONE, NONE},
            {1, 1, 0, 0, NONE, NONE, NONE, NONE, 0, NONE, NONE, NONE, NONE},
            {5, 2, 1, 0, NONE, NONE, NONE, 0, NONE, NONE, NONE, NONE, NONE},
            {5, 3, 2, 0, NONE, NONE, NONE, 1, NONE, NONE, NONE, NONE, NONE}};
        for (int i = 0; i < 4; i++) {
            for (int w = 0; w < 13; w++) {
                due(14, "object(" + i + ", " + w + ")", x.object(i, w), want[i][w]);
            }
        }
        due(14, "object(4, 0)", x.object(4, 0), BAD);
        due(14, "object(-1, 0)", x.object(-1, 0), BAD);
        due(14, "object(0, 13)", x.object(0, 13), BAD);
        due(14, "object(0, -1)", x.object(0, -1), BAD);
        x.run(0, 1);
        due(14, "object(1, 0) of a shorter run", x.object(1, 0), BAD);
        due(14, "object(0, 0)", x.object(0, 0), 0);
        x.step(0, 3, 0, 0, 0, 0);
        due(14, "object(0, 0) behind a change", x.object(0, 0), BAD);
        SiteObjects y = new SiteObjects();
        y.method(-1, 0);
        tell(y, 0, s(1, 0, 0, 5, 0), s(7, 0, 0, 4, 0), s(0, 2, 0, 0, 0), s(5, 2, 0, 0, 0), s(5, 2, 2, 3, 0),
            s(12, 0, 1, 0, 0), s(5, 2, 5, 0, 0));
        y.work(0, 0, 0);
        y.run(1, 300);
        due(14, "object(0, 12)", y.object(0, 12), 0);
        due(14, "object(0, 7) of a ROW", y.object(0, 7), NONE);
        due(14, "object(1, 4)", y.object(1, 4), 0);
        due(14, "object(1, 7)", y.object(1, 7), 1);
        due(14, "object(1, 8) of no ROW", y.object(1, 8), NONE);
        y.run(0, 300);
        due(14, "object(1, 4), NOTHING again", y.object(1, 4), NONE);
    }

    static void many() {
        SiteObjects x = twice();
        due(15, "many(0)", x.many(0), STATE);
        due(15, "many(-1)", x.many(-1), STATE);
        x.work(0, 1, 1);
        due(15, "many(0) without a run", x.many(0), NONE);
        due(15, "many(3) without a run", x.many(3), BAD);
        due(15, "many(-1) without a run", x.many(-1), BAD);
        x.run(0, 300);
        due(15, "many(0)", x.many(0), 1);
        due(15, "many(2)", x.many(2), 2);
        due(15, "many(3)", x.many(3), BAD);
        x.run(0, 2);
        due(15, "many(2)", x.many(2), 0);
        x.work(0, 0, 1);
        x.run(0, 300);
        due(15, "many(2) by CALLERS", x.many(2), 1);
        due(15, "many(3) by CALLERS", x.many(3), 1);
        x.cls(0);
        due(15, "many(0) behind a change", x.many(0), STATE);
    }

    static void counts() {
        SiteObjects x = twice();
        due(16, "count(-1)", x.count(-1), BAD);
        due(16, "count(7)", x.count(7), BAD);
        int[] told = {2, 2, 9, 0, 0, 0, 0};
        int[] found = {2, 2, 9, 3, 4, 3, 1};
        int[] changed = {2, 2, 10, 0, 0, 3, 0};
        for (int w = 0; w < 7; w++) {
            due(16, "count(" + w + ")", x.count(w), told[w]);
        }
        x.work(0, 0, 1);
        x.within(1, 0);
        for (int w = 0; w < 7; w++) {
            due(16, "count(" + w + ") behind work()", x.count(w), found[w]);
        }
        x.step(0, 3, 0, 0, 0, 0);
        for (int w = 0; w < 7; w++) {
            due(16, "count(" + w + ") behind a change", x.count(w), changed[w]);
        }
        // Each MOVE takes from the one behind it: a round for each, and one that finds nothing new.
        SiteObjects y = new SiteObjects();
        y.method(-1, 0);
        tell(y, 0, s(2, 5, 4, 0, 0), s(2, 4, 3, 0, 0), s(2, 3, 2, 0, 0), s(0, 2, 0, 0, 0));
        y.work(0, 0, 0);
        due(16, "count(5)", y.count(5), 5);
    }

    static void within() {
        SiteObjects x = new SiteObjects();
        x.method(-1, 0);
        x.method(-1, 0);
        // METHOD 1 gives its ARGUMENT: by CALLERS each gets its own, by RECEIVERS both get both.
        tell(x, 0, s(0, 2, 0, 0, 0), s(0, 3, 0, 0, 0), s(10, 4, 0, 1, 2), s(10, 5, 0, 1, 3));
        tell(x, 1, s(11, 1, 0, 0, 0));
        due(17, "within(3, 0)", x.within(3, 0), BAD);
        due(17, "within(-1, 0)", x.within(-1, 0), BAD);
        due(17, "within(0, 3)", x.within(0, 3), BAD);
        due(17, "within(0, -1)", x.within(0, -1), BAD);
        due(17, "within(0, 0)", x.within(0, 0), STATE);
        x.work(0, 0, 1);
        x.run(0, 300);
        due(17, "within(0, 0)", x.within(0, 0), 0);
        due(17, "within(1, 2)", x.within(1, 2), 0);
        due(17, "within(2, 1)", x.within(2, 1), 1);
        due(17, "within(0, 2)", x.within(0, 2), 1);
        due(17, "within(0, 1)", x.within(0, 1), 1);
        due(17, "held(0, 4) behind it", x.held(0, 4), 1);
        due(17, "ran(1) behind it", x.ran(1), 5 + 1);
        x.work(0, 0, 0);
        for (int mode = 0; mode < 3; mode++) {
            for (int depth = 0; depth < 3; depth++) {
                due(17, "within(" + mode + ", " + depth + ") of DEPTH 0", x.within(mode, depth), 1);
            }
        }
        x.work(1, 0, 2);
        due(17, "within(0, 0) from METHOD 1", x.within(0, 0), 1);
        x.cls(0);
        due(17, "within(0, 0) behind a change", x.within(0, 0), STATE);
        due(17, "within(0, 3) behind a change", x.within(0, 3), BAD);
    }

    public static void main(String[] args) {
        newObject();
        classes();
        methods();
        steps();
        fullSteps();
        work();
        names();
        nodes();
        held();
        inside();
        globals();
        leads();
        run();
        ran();
        objects();
        many();
        counts();
        within();
        end();
    }
}
