import java.lang.reflect.InvocationTargetException;
import java.lang.reflect.Method;
import java.lang.reflect.Modifier;
import java.util.Arrays;
import java.util.Comparator;

/** What the tests share: answers held against those that are due, and short words for a PROGRAM. */
class Dues {
    static final int BAD = -1, STATE = -2, FULL = -3, NONE = -9;
    static final int MIN = Integer.MIN_VALUE, MAX = Integer.MAX_VALUE;
    static final int NULL = 1, KIND = 2, PLACE = 3, FITS = 4, CAST = 5, NO_METHOD = 6, RAISED = 7, DEEP = 8, SPENT = 9;
    /** Stands for numbers that a KIND has not: these are not looked at. */
    static final int OTHER = -77;
    static final int[] STATIC = {-1, OTHER};

    private static int wrong = 0;
    private static String sentence = "";

    /** The sentence of the document that the answers behind this are about. */
    static void about(String itsWords) {
        sentence = itsWords;
    }

    static void due(String call, long got, long want) {
        if (got != want && wrong++ < 60) {
            System.out.println("\"" + sentence + "\": " + call + " answered " + got + ", due is " + want);
        }
    }

    static void due(String call, String got, String want) {
        if (!got.equals(want) && wrong++ < 60) {
            System.out.println("\"" + sentence + "\": " + call + ": " + got + ", due is " + want);
        }
    }

    /** Runs each static method of a test that takes nothing, so that none is forgotten, and ends the test. */
    static void runAll(Class<?> test) throws Exception {
        Method[] all = test.getDeclaredMethods();
        Arrays.sort(all, Comparator.comparing(Method::getName));
        int ran = 0;
        for (Method m : all) {
            if (Modifier.isStatic(m.getModifiers()) && m.getParameterCount() == 0 && m.getReturnType() == void.class) {
                sentence = m.getName();
                ran++;
                try {
                    m.invoke(null);
                } catch (InvocationTargetException e) {
                    wrong++;
                    System.out.println(m.getName() + " threw " + e.getCause());
                }
            }
        }
        System.out.println(ran + " sentences");
        end();
    }

    static void end() {
        System.out.println(wrong == 0 ? "all answers are as due" : wrong + " answers are not as due");
        if (wrong != 0) {
            System.exit(1);
        }
    }

    static int[] of(int cls, int selector) {
        return new int[] {cls, selector};
    }

    static int[] make(int a, int cls) {
        return new int[] {0, a, cls, OTHER, OTHER};
    }

    static int[] row(int a, int cls, int places) {
        return new int[] {1, a, cls, places, OTHER};
    }

    static int[] move(int a, int b) {
        return new int[] {2, a, b, OTHER, OTHER};
    }

    static int[] clear(int a) {
        return new int[] {3, a, OTHER, OTHER, OTHER};
    }

    static int[] load(int a, int b, int field) {
        return new int[] {4, a, b, field, OTHER};
    }

    static int[] store(int a, int field, int b) {
        return new int[] {5, a, b, field, OTHER};
    }

    static int[] take(int a, int b, int place) {
        return new int[] {6, a, b, place, OTHER};
    }

    static int[] lay(int a, int place, int b) {
        return new int[] {7, a, b, place, OTHER};
    }

    static int[] cast(int a, int b, int cls) {
        return new int[] {8, a, b, cls, OTHER};
    }

    static int[] ask(int a, int b, int selector, int d) {
        return new int[] {9, a, b, selector, d};
    }

    static int[] call(int a, int method, int d) {
        return new int[] {10, a, OTHER, method, d};
    }

    static int[] give(int a) {
        return new int[] {11, a, OTHER, OTHER, OTHER};
    }

    static int[] maybe(int span) {
        return new int[] {12, OTHER, span, OTHER, OTHER};
    }

    static int[] put(int global, int a) {
        return new int[] {13, a, OTHER, global, OTHER};
    }

    static int[] get(int a, int global) {
        return new int[] {14, a, OTHER, global, OTHER};
    }

    static int[] raise(int a) {
        return new int[] {15, a, OTHER, OTHER, OTHER};
    }

    static int[] guard(int a, int span, int cls) {
        return new int[] {16, a, span, cls, OTHER};
    }

    static int[][] times(int many, int[] step) {
        int[][] all = new int[many][];
        Arrays.fill(all, step);
        return all;
    }

    /** A PROGRAM that is told piece by piece; none of them may be refused. */
    static final class Told {
        final SiteObjects x = new SiteObjects();

        /** For each CLASS behind 0 the one that it is told below. */
        Told(int... above) {
            for (int c = 0; c < above.length; c++) {
                due("cls(" + above[c] + ")", x.cls(above[c]), c + 1);
            }
        }

        Told methods(int[]... them) {
            for (int[] m : them) {
                int want = x.count(1);
                due("method(" + m[0] + ", " + m[1] + ")", x.method(m[0], m[1]), want);
            }
            return this;
        }

        Told steps(int method, int[]... them) {
            int want = x.count(2);
            for (int[] s : them) {
                String call = "step(" + method + ", " + s[0] + ", " + s[1] + ", " + s[2] + ", " + s[3] + ", " + s[4] + ")";
                due(call, x.step(method, s[0], s[1], s[2], s[3], s[4]), want++);
            }
            return this;
        }

        /** All is found from METHOD 0 on. */
        SiteObjects work(int mode, int depth) {
            due("work(0, " + mode + ", " + depth + ")", x.work(0, mode, depth), depth);
            return x;
        }
    }

    /** One STATIC METHOD alone, with CLASSES told below others; found by MODE 0, DEPTH 0. */
    static SiteObjects single(int[] above, int[]... steps) {
        return new Told(above).methods(STATIC).steps(0, steps).work(0, 0);
    }

    static int[] above(int... classes) {
        return classes;
    }

    /** The answers of ran(0) .. ran(8). */
    static void ran(String of, SiteObjects x, int... want) {
        for (int w = 0; w < want.length; w++) {
            due(of + ": ran(" + w + ")", x.ran(w), want[w]);
        }
    }

    /** A run with all STEPS that there may be: what it answers, where it failed, what it gave or raised. */
    static void runs(String of, SiteObjects x, long bits, int answer, int at, int outcome) {
        due(of + ": run(" + bits + ", 300)", x.run(bits, 300), answer);
        due(of + ": ran(0)", x.ran(0), answer);
        due(of + ": ran(6)", x.ran(6), at);
        due(of + ": ran(7)", x.ran(7), outcome);
        due(of + ": ran(4)", x.ran(4), 0);
    }

    /** The OBJECT that a run gives. */
    static void gives(String of, SiteObjects x, long bits, int object) {
        runs(of, x, bits, 0, NONE, object);
    }

    static void fails(String of, SiteObjects x, int failure, int at) {
        runs(of, x, 0, failure, at, NONE);
    }

    /** The sets of a NODE by VARS 0 .. 5, GIVES, RAISES. */
    static void sets(String of, SiteObjects x, int node, long... want) {
        for (int v = 0; v < want.length; v++) {
            due(of + ": held(" + node + ", " + v + ")", x.held(node, v), want[v]);
        }
    }
}
