/**
 * Promises 1 to 17, each under its own head: the numbers just inside and just outside of what is told, and what is
 * answered where there is nothing. PromiseTest has their ordinary inputs, RefusedEdgesTest what is refused in each state.
 */
public final class PromiseEdgesTest extends Dues {

    static void promise1() {
        about("Promise 1: CLASS 0 alone");
        SiteObjects x = new SiteObjects();
        int[] counts = {1, 0, 0, 0, 0, 0, 0};
        for (int w = 0; w < 7; w++) {
            due("count(" + w + ")", x.count(w), counts[w]);
        }
        for (int w = 0; w < 9; w++) {
            due("ran(" + w + ")", x.ran(w), NONE);
        }
        due("step(0, 3, ..)", x.step(0, 3, 0, 0, 0, 0), BAD);
        due("work(0, 0, 0)", x.work(0, 0, 0), BAD);
        due("leads(0, 0, 0)", x.leads(0, 0, 0), BAD);
        due("object(0, 0)", x.object(0, 0), BAD);
        due("name(0, 0)", x.name(0, 0), STATE);
        due("node(0, 0)", x.node(0, 0), STATE);
        due("held(0, 0)", x.held(0, 0), STATE);
        due("inside(0, 0)", x.inside(0, 0), STATE);
        due("global(0)", x.global(0), STATE);
        due("run(0, 1)", x.run(0, 1), STATE);
        due("many(0)", x.many(0), STATE);
        due("within(0, 0)", x.within(0, 0), STATE);
        due("cls(1)", x.cls(1), BAD);
        due("cls(0)", x.cls(0), 1);
    }

    static void promise1OfItsOwn() {
        about("Promise 1: a new object has nothing of another one");
        SiteObjects x = single(above(0), make(2, 0), put(0, 2));
        x.run(0, 300);
        SiteObjects y = new SiteObjects();
        due("count(0)", y.count(0), 1);
        due("count(5)", y.count(5), 0);
        due("ran(0)", y.ran(0), NONE);
        y.cls(0);
        y.cls(0);
        due("count(0) of the first", x.count(0), 2);
        due("count(6) of the first", x.count(6), 1);
    }

    static void promise1ToTheLastCall() {
        about("An object is used for at most 512 calls");
        SiteObjects x = new SiteObjects();
        int calls = 0;
        for (int c = 1; c < 10; c++, calls++) {
            due("cls", x.cls(c - 1), c);
        }
        for (int m = 0; m < 12; m++, calls++) {
            due("method", x.method(-1, 0), m);
        }
        for (int s = 0; s < 90; s++, calls++) {
            due("step", s % 2 == 0 ? x.step(s % 12, 0, 2, s % 10, 0, 0) : x.step(s % 12, 10, 3, 0, (s + 1) % 12, 2), s);
        }
        for (; calls < 511; calls += 2) {
            due("call " + (calls + 1) + ": work", x.work(0, 0, calls % 3), calls % 3);
            due("call " + (calls + 2) + ": run", x.run(calls, 300), 0);
        }
        due("call 512: count(2)", x.count(2), 90);
        due("calls", calls, 511);
    }

    static void promise2() {
        about("Promise 2: cls: A CLASS below another one: its number. BAD; FULL");
        SiteObjects x = new SiteObjects();
        for (int c = 1; c < 10; c++) {
            due("just outside, with " + c, x.cls(c), BAD);
            due("just outside, below 0", x.cls(-1), BAD);
            due("just inside, with " + c, x.cls(c % 2 == 0 ? 0 : c - 1), c);
        }
        due("count(0)", x.count(0), 10);
        for (int c = 0; c < 10; c++) {
            due("cls(" + c + "), full", x.cls(c), FULL);
        }
        due("cls(10), full", x.cls(10), BAD);
    }

    static void promise3() {
        about("Promise 3: method: of a CLASS with a SELECTOR, or (-1) STATIC (the SELECTOR is not looked at)");
        SiteObjects x = new Told(0).x;
        int[][] bad = {{-2, 0}, {2, 0}, {MIN, 0}, {MAX, 0}, {0, -1}, {0, 8}, {1, MIN}, {1, MAX}, {-2, -1}, {2, 8}};
        for (int[] m : bad) {
            due("method(" + m[0] + ", " + m[1] + ")", x.method(m[0], m[1]), BAD);
        }
        int told = 0;
        for (int[] m : new int[][] {{0, 0}, {0, 7}, {1, 0}, {1, 7}}) {
            due("just inside", x.method(m[0], m[1]), told++);
            due("if there is one of both", x.method(m[0], m[1]), BAD);
        }
        for (int selector : new int[] {-1, 0, 7, 8, MIN, MAX, 0, 7}) {
            due("method(-1, " + selector + ")", x.method(-1, selector), told++);
        }
        due("count(1)", x.count(1), 12);
        due("full, STATIC", x.method(-1, 0), FULL);
        due("full, of a CLASS", x.method(0, 1), FULL);
        due("full, if there is one of both", x.method(1, 7), BAD);
        for (int[] m : bad) {
            due("full: method(" + m[0] + ", " + m[1] + ")", x.method(m[0], m[1]), BAD);
        }
    }

    /** A number of a KIND: inside at both ends, outside next to them and far off. */
    static void range(int kind, int which, int least, int most) {
        int[][] fits = {make(0, 0), row(0, 0, 0), move(0, 0), clear(0), load(0, 0, 0), store(0, 0, 0), take(0, 0, 0), lay(0, 0, 0),
            cast(0, 0, 0), ask(0, 0, 0, 0), call(0, 0, 0), give(0), maybe(1), put(0, 0), get(0, 0), raise(0), guard(0, 1, 0)};
        SiteObjects x = new Told(0, 0).methods(STATIC, of(0, 0), STATIC).x;
        int[] s = fits[kind].clone();
        for (int number : new int[] {least, most, least - 1, most + 1, MIN, MAX}) {
            s[1 + which] = number;
            boolean isInside = number >= least && number <= most;
            int want = isInside ? x.count(2) : BAD;
            due("KIND " + kind + ", number " + which + " is " + number, x.step(0, kind, s[1], s[2], s[3], s[4]), want);
        }
        due("KIND " + kind + ", number " + which + ": count(2)", x.count(2), 2);
    }

    static void promise4Vars() {
        about("Promise 4: step: BAD: VARS not 0 .. 5");
        int[][] vars = {{0}, {0}, {0, 1}, {0}, {0, 1}, {0, 1}, {0, 1}, {0, 1}, {0, 1}, {0, 1, 3}, {0, 3}, {0}, {}, {0}, {0}, {0}, {0}};
        for (int kind = 0; kind < 17; kind++) {
            for (int which : vars[kind]) {
                range(kind, which, 0, 5);
            }
        }
    }

    static void promise4Others() {
        about("Promise 4: step: BAD: CLASSES, SELECTORS, GLOBALS, FIELDS that are none");
        range(0, 1, 0, 2);
        range(1, 1, 0, 2);
        range(8, 2, 0, 2);
        range(16, 2, 0, 2);
        range(9, 2, 0, 7);
        range(13, 2, 0, 3);
        range(14, 2, 0, 3);
        range(4, 2, 0, 3);
        range(5, 2, 0, 3);
    }

    static void promise4Places() {
        about("Promise 4: step: BAD: PLACES of a STEP 6, 7 not 0 .. 7, of 1 not 0 .. 5");
        range(6, 2, 0, 7);
        range(7, 2, 0, 7);
        range(1, 2, 0, 5);
    }

    static void promise4Spans() {
        about("Promise 4: step: BAD: STEPS of 12, 16 not 1 .. 30");
        range(12, 1, 1, 30);
        range(16, 1, 1, 30);
    }

    static void promise4StaticMethods() {
        about("Promise 4: step: BAD: STATIC METHODS (10) that are none");
        SiteObjects x = new Told(0).methods(of(0, 0), STATIC, of(1, 0), STATIC).x;
        due("METHOD 0, of a CLASS", x.step(1, 10, 0, 0, 0, 0), BAD);
        due("METHOD 1, STATIC", x.step(1, 10, 0, 0, 1, 0), 0);
        due("METHOD 2, of a CLASS", x.step(1, 10, 0, 0, 2, 0), BAD);
        due("METHOD 3, STATIC", x.step(1, 10, 0, 0, 3, 0), 1);
        due("METHOD 4, none", x.step(1, 10, 0, 0, 4, 0), BAD);
        due("METHOD -1, none", x.step(1, 10, 0, 0, -1, 0), BAD);
        due("METHOD MIN, none", x.step(1, 10, 0, 0, MIN, 0), BAD);
        due("METHOD MAX, none", x.step(1, 10, 0, 0, MAX, 0), BAD);
    }

    static void promise4NotLookedAt() {
        about("Promise 4: step: numbers that its KIND has not are not looked at");
        int[][] not = {{2, 3}, {3}, {2, 3}, {1, 2, 3}, {3}, {3}, {3}, {3}, {3}, {}, {1}, {1, 2, 3}, {0, 2, 3}, {1, 3}, {1, 3}, {1, 2, 3}, {3}};
        for (int kind = 0; kind < 17; kind++) {
            SiteObjects x = new Told().methods(STATIC).x;
            int told = 0;
            for (int which : not[kind]) {
                for (int number : new int[] {MIN, -1, 100, MAX}) {
                    int[] s = {0, kind == 12 || kind == 16 ? 1 : 0, 0, 0};
                    s[which] = number;
                    due("KIND " + kind + ", number " + which + " is " + number, x.step(0, kind, s[0], s[1], s[2], s[3]), told++);
                }
            }
            due("KIND " + kind + ": work", x.work(0, 0, 0), 0);
        }
    }

    static void promise4MethodsAndKinds() {
        about("Promise 4: step: there is no such METHOD or KIND");
        SiteObjects x = new Told().methods(STATIC, of(0, 0)).x;
        for (int m : new int[] {-1, 2, MIN, MAX}) {
            due("step(" + m + ", 3, ..)", x.step(m, 3, 0, 0, 0, 0), BAD);
        }
        for (int k : new int[] {-1, 17, MIN, MAX}) {
            due("step(0, " + k + ", ..)", x.step(0, k, 0, 1, 0, 0), BAD);
        }
        due("METHOD 1, KIND 0", x.step(1, 0, 0, 0, 0, 0), 0);
        due("METHOD 0, KIND 16", x.step(0, 16, 0, 1, 0, 0), 1);
    }

    static void promise5() {
        about("Promise 5: work: from a STATIC METHOD on: the DEPTH by which it was. BAD: MODE, DEPTH, no STATIC METHOD");
        SiteObjects x = new Told().methods(of(0, 0), STATIC, of(0, 1), STATIC).steps(3, make(2, 0)).x;
        int[] wrong = {-1, 3, MIN, MAX};
        for (int w : wrong) {
            due("MODE " + w, x.work(1, w, 0), BAD);
            due("DEPTH " + w, x.work(1, 0, w), BAD);
        }
        for (int m : new int[] {-1, 0, 2, 4, MIN, MAX}) {
            due("METHOD " + m, x.work(m, 0, 0), BAD);
        }
        due("count(6)", x.count(6), 0);
        for (int mode = 0; mode < 3; mode++) {
            for (int depth = 0; depth < 3; depth++) {
                due("work(1, " + mode + ", " + depth + ")", x.work(1, mode, depth), depth);
                due("count(4)", x.count(4), 0);
                due("work(3, " + mode + ", " + depth + ")", x.work(3, mode, depth), depth);
                due("count(4)", x.count(4), 1);
                due("node(0, 0)", x.node(0, 0), 3);
            }
        }
    }

    static void promise6() {
        about("Promise 6: name: 0 its STEP, 1 its CLASS, 2 whether it is a ROW, 3 the NODE that makes it, 4 whether it is ONE");
        SiteObjects none = single(above(), clear(2));
        for (int w = 0; w < 5; w++) {
            due("where there is no NAME: name(0, " + w + ")", none.name(0, w), BAD);
        }
        SiteObjects x = new Told(0, 1).methods(STATIC, STATIC).steps(0, clear(2), make(2, 2), row(2, 1, 0), call(3, 1, 2), call(3, 1, 2))
            .steps(1, row(2, 2, 5)).work(0, 0);
        int[][] want = {{1, 2, 0, 0, 1}, {2, 1, 1, 0, 1}, {5, 2, 1, 1, 0}};
        for (int m = 0; m < 3; m++) {
            for (int w = 0; w < 5; w++) {
                due("name(" + m + ", " + w + ")", x.name(m, w), want[m][w]);
            }
        }
        for (int w : new int[] {-1, 5, MIN, MAX}) {
            due("name(0, " + w + ")", x.name(0, w), BAD);
        }
        for (int m : new int[] {-1, 3, MIN, MAX}) {
            due("name(" + m + ", 0)", x.name(m, 0), BAD);
        }
    }

    static void promise7() {
        about("Promise 7: node: 0 its METHOD, 1 and 2 the numbers of its CONTEXT (NONE), 3 whether it is ONCE, 4 how many lead to it");
        SiteObjects x = new Told().methods(STATIC, STATIC, STATIC).steps(0, call(2, 2, 2)).steps(2, call(2, 1, 2), call(2, 1, 2)).work(0, 2);
        int[][] want = {{0, NONE, NONE, 1, 0}, {2, 0, NONE, 1, 1}, {1, 1, 0, 1, 1}, {1, 2, 0, 1, 1}};
        for (int n = 0; n < 4; n++) {
            for (int w = 0; w < 5; w++) {
                due("node(" + n + ", " + w + ")", x.node(n, w), want[n][w]);
            }
        }
        for (int w : new int[] {-1, 5, MIN, MAX}) {
            due("node(0, " + w + ")", x.node(0, w), BAD);
        }
        for (int n : new int[] {-1, 4, MIN, MAX}) {
            due("node(" + n + ", 0)", x.node(n, 0), BAD);
        }
        x.work(0, 0, 1);
        due("by DEPTH 1 there is no second number", x.node(2, 2), NONE);
        x.work(0, 0, 0);
        due("by DEPTH 0 there is no first number", x.node(2, 1), NONE);
        due("two STEPS lead to it", x.node(2, 4), 2);
        due("it is not ONCE", x.node(2, 3), 0);
    }

    static void promise8() {
        about("Promise 8: held: as bits (1: NAME 0); var = 6: what it GIVES; 7: RAISES. -1: BAD; -2: STATE");
        SiteObjects x = single(above(0), make(0, 0), make(1, 1), move(0, 1), give(1), guard(5, 1, 1), raise(0));
        sets("NODE 0", x, 0, 3, 2, 0, 0, 0, 2, 2, 1);
        for (int v : new int[] {-1, 8, MIN, MAX}) {
            due("held(0, " + v + ")", x.held(0, v), -1L);
        }
        for (int n : new int[] {-1, 1, MIN, MAX}) {
            due("held(" + n + ", 0)", x.held(n, 0), -1L);
        }
        SiteObjects none = single(above());
        sets("where there is nothing", none, 0, 0, 0, 0, 0, 0, 0, 0, 0);
        x.cls(0);
        due("held(0, 7) behind a change", x.held(0, 7), -2L);
        due("held(0, 8) behind a change", x.held(0, 8), -1L);
        Told t = new Told().methods(STATIC, STATIC).steps(0, times(10, call(2, 1, 2))).steps(1, times(6, make(2, 0))).steps(1, give(2));
        SiteObjects y = t.work(0, 1);
        due("all of 60 NAMES", y.held(0, 2), (1L << 60) - 1);
        due("the last six", y.held(10, 6), 63L << 54);
    }

    static void promise9() {
        about("Promise 9: inside: FIELD 0 .. 3 of a NAME (a ROW: 0); 4: in its PLACES (no ROW: 0). Refused as held()");
        SiteObjects x = single(above(), make(2, 0), row(3, 0, 5), move(4, 2), move(4, 3), store(4, 0, 2), store(4, 3, 3), lay(4, 4, 4));
        long[][] want = {{1, 0, 0, 2, 0}, {0, 0, 0, 0, 3}};
        for (int m = 0; m < 2; m++) {
            for (int f = 0; f < 5; f++) {
                due("inside(" + m + ", " + f + ")", x.inside(m, f), want[m][f]);
            }
        }
        for (int f : new int[] {-1, 5, MIN, MAX}) {
            due("inside(0, " + f + ")", x.inside(0, f), -1L);
        }
        for (int m : new int[] {-1, 2, MIN, MAX}) {
            due("inside(" + m + ", 0)", x.inside(m, 0), -1L);
        }
        due("where there is no NAME", single(above()).inside(0, 0), -1L);
        x.method(-1, 0);
        due("inside(0, 4) behind a change", x.inside(0, 4), -2L);
        due("inside(0, 5) behind a change", x.inside(0, 5), -1L);
    }

    static void promise10() {
        about("Promise 10: global: The NAMES in a GLOBAL. Refused as held()");
        SiteObjects x = single(above(), make(2, 0), put(0, 2), row(2, 0, 1), put(3, 2));
        due("global(0)", x.global(0), 3);
        due("global(1), in which nothing is", x.global(1), 0);
        due("global(3)", x.global(3), 3);
        for (int g : new int[] {-1, 4, MIN, MAX}) {
            due("global(" + g + ")", x.global(g), -1L);
        }
        x.step(0, 3, 0, 0, 0, 0);
        due("global(3) behind a change", x.global(3), -2L);
        due("global(4) behind a change", x.global(4), -1L);
    }

    static void promise11() {
        about("Promise 11: leads: NODES to which a STEP (9 or 10) of a NODE's METHOD may lead: the i-th by number; NONE");
        // The second ASK leads to the NODES by other NAMES first: they are told by number nevertheless.
        Told t = new Told(0, 0).methods(STATIC, of(1, 0), of(2, 0), STATIC).steps(0, make(2, 2), make(2, 1), make(3, 1), ask(5, 3, 0, 2),
            ask(5, 2, 0, 2), call(5, 0, 2), ask(5, 4, 0, 2), call(5, 3, 2));
        SiteObjects x = t.work(0, 0);
        int[][] want = {{1, NONE}, {1, 2, NONE}, {0, NONE}, {NONE}, {3, NONE}};
        for (int s = 0; s < 5; s++) {
            for (int i = 0; i < want[s].length; i++) {
                due("leads(0, " + (3 + s) + ", " + i + ")", x.leads(0, 3 + s, i), want[s][i]);
            }
            for (int i : new int[] {-1, 5, 80, MIN, MAX}) {
                due("leads(0, " + (3 + s) + ", " + i + ")", x.leads(0, 3 + s, i), NONE);
            }
        }
        due("the first NODE is METHOD 1's", x.node(1, 0), 1);
        due("the second NODE is METHOD 2's", x.node(2, 0), 2);
        for (int s : new int[] {-1, 0, 2, 8, MIN, MAX}) {
            due("leads(0, " + s + ", 0)", x.leads(0, s, 0), BAD);
        }
    }

    static void promise11Many() {
        about("Promise 11: leads: the i-th by number: as many as there may be");
        Told t = new Told().methods(STATIC, of(0, 0)).steps(0, times(55, make(2, 0))).steps(0, ask(3, 2, 0, 2));
        SiteObjects x = t.work(1, 1);
        for (int i = 0; i < 55; i++) {
            due("leads(0, 55, " + i + ")", x.leads(0, 55, i), 1 + i);
        }
        due("leads(0, 55, 55)", x.leads(0, 55, 55), NONE);
        // Here NODES 64 and above are led to.
        Told u = new Told().methods(STATIC, STATIC).steps(0, times(79, call(2, 1, 2)));
        SiteObjects y = u.work(0, 1);
        for (int s = 60; s < 79; s++) {
            due("leads(0, " + s + ", 0)", y.leads(0, s, 0), 1 + s);
            due("leads(0, " + s + ", 1)", y.leads(0, s, 1), NONE);
            due("node(" + (1 + s) + ", 4)", y.node(1 + s, 4), 1);
        }
    }

    static void promise12() {
        about("Promise 12: run: with bits, and so many STEPS (1 .. 300): 0 it ended, else the FAILURE");
        SiteObjects x = single(above(), make(2, 0), load(3, 2, 0));
        for (int s : new int[] {0, -1, 301, MIN, MAX}) {
            due("run(0, " + s + ")", x.run(0, s), BAD);
        }
        due("run(0, 1)", x.run(0, 1), SPENT);
        due("run(0, 2)", x.run(0, 2), 0);
        due("run(0, 300)", x.run(0, 300), 0);
        due("run(MIN, 300)", x.run(Long.MIN_VALUE, 300), 0);
        due("run(MAX, 300)", x.run(Long.MAX_VALUE, 300), 0);
    }

    static void promise12FromTheLatestWork() {
        about("Promise 12: run: from the METHOD of the latest work() on");
        SiteObjects x = new Told().methods(STATIC, STATIC).steps(0, make(2, 0)).steps(1, row(2, 0, 1)).work(0, 0);
        x.run(0, 300);
        due("from METHOD 0", x.object(0, 0), 0);
        x.work(1, 0, 0);
        x.run(0, 300);
        due("from METHOD 1", x.object(0, 0), 1);
        due("work refused", x.work(2, 0, 0), BAD);
        x.work(0, 3, 0);
        x.within(0, 0);
        x.run(0, 300);
        due("from METHOD 1, as a work() was refused", x.object(0, 0), 1);
    }

    /** One OBJECT in VAR 2 and a ROW in VAR 3 are held; how many HOLDS come with the STEPS behind them. */
    static void holds(String of, int more, int[]... steps) {
        SiteObjects x = new Told().methods(STATIC, STATIC, of(0, 0), STATIC).steps(0, make(2, 0), row(3, 0, 2)).steps(0, steps)
            .steps(1, give(1)).steps(2, clear(2)).steps(3, raise(1)).work(0, 1);
        due(of + ": run(0, 300)", x.run(0, 300), 0);
        due(of + ": HOLDS", x.ran(3), 2 + more);
        due(of + ": not as was found", x.ran(4), 0);
    }

    static void promise13Holds() {
        about("Promise 13: ran: 3 HOLDS: how often something became an OBJECT (a VAR, FIELD, PLACE, GLOBAL; RECEIVERS and ARGUMENTS, too)");
        holds("nothing more", 0);
        holds("MAKE, ROW", 2, make(2, 0), row(2, 0, 0));
        holds("MOVE", 1, move(4, 2));
        holds("MOVE to itself", 1, move(2, 2));
        holds("MOVE of NOTHING", 0, move(2, 4));
        holds("CLEAR", 0, clear(2));
        holds("STORE", 1, store(2, 0, 3));
        holds("STORE of NOTHING", 0, store(2, 0, 4));
        holds("LOAD", 2, store(2, 0, 3), load(4, 2, 0));
        holds("LOAD of NOTHING", 0, load(4, 2, 0));
        holds("LAY", 1, lay(3, 0, 2));
        holds("LAY of NOTHING", 0, lay(3, 0, 4));
        holds("TAKE", 2, lay(3, 1, 2), take(4, 3, 1));
        holds("TAKE of NOTHING", 0, take(4, 3, 1));
        holds("CAST", 1, cast(4, 2, 0));
        holds("CAST of NOTHING", 0, cast(4, 5, 0));
        holds("PUT", 1, put(0, 2));
        holds("PUT of NOTHING", 0, put(0, 4));
        holds("GET", 2, put(0, 2), get(4, 0));
        holds("GET of NOTHING", 0, get(4, 0));
        holds("CALL: ARGUMENT and what it gives", 2, call(4, 1, 2));
        holds("CALL with NOTHING", 0, call(4, 1, 5));
        holds("ASK: RECEIVER and ARGUMENT", 2, ask(4, 2, 0, 3));
        holds("ASK with NOTHING: RECEIVER", 1, ask(4, 2, 0, 5));
        holds("ASK of a ROW", 2, ask(4, 3, 0, 3));
        holds("GIVE at the beginning", 0, give(2));
        holds("RAISE: what a GUARD takes", 1, guard(4, 1, 0), raise(2));
        holds("RAISE within: ARGUMENT and what a GUARD takes", 2, guard(4, 1, 0), call(5, 3, 2));
        holds("MAYBE, GUARD", 0, maybe(1), guard(4, 1, 0));
    }

    static void promise13() {
        about("Promise 13: ran: NONE: none since work(), or since the PROGRAM was changed. BAD");
        SiteObjects x = single(above(), make(2, 0), give(2));
        for (int w = 0; w < 9; w++) {
            due("none since work(): ran(" + w + ")", x.ran(w), NONE);
        }
        int[] want = {0, 2, 1, 1, 0, 1, NONE, 0, 0};
        due("run(0, 300)", x.run(0, 300), 0);
        ran("of the run", x, want);
        due("a run that is refused", x.run(0, 301), BAD);
        ran("of the run ahead of it", x, want);
        for (int w : new int[] {-1, 9, MIN, MAX}) {
            due("ran(" + w + ")", x.ran(w), BAD);
        }
        due("work that is refused", x.work(1, 0, 0), BAD);
        ran("of the run ahead of it", x, want);
        due("work(0, 0, 0)", x.work(0, 0, 0), 0);
        ran("none since work()", x, NONE, NONE, NONE, NONE, NONE, NONE, NONE, NONE, NONE);
        due("run(0, 1)", x.run(0, 1), SPENT);
        ran("of the latest run", x, 9, 1, 1, 1, 0, 1, 1, NONE, 0);
        due("method(-1, 0)", x.method(-1, 0), 1);
        ran("none since the PROGRAM was changed", x, NONE, NONE, NONE, NONE, NONE, NONE, NONE, NONE, NONE);
        for (int w : new int[] {-1, 9, MIN, MAX}) {
            due("without a run: ran(" + w + ")", x.ran(w), BAD);
        }
    }

    static void promise13OfTheLatestRun() {
        about("Promise 13: ran: Of the latest run: nothing of an earlier one");
        SiteObjects x = new Told().methods(STATIC, STATIC).steps(0, maybe(3), make(2, 0), call(3, 1, 2), give(2), clear(2)).steps(1, maybe(1), raise(1)).work(0, 0);
        due("run(0, 300)", x.run(0, 300), RAISED);
        ran("RAISED", x, 7, 5, 1, 2, 0, 2, 6, 0, 2);
        due("run(1, 300)", x.run(1, 300), 0);
        ran("passed over", x, 0, 2, 0, 0, 0, 1, NONE, NONE, 1);
        due("object(0, 0)", x.object(0, 0), BAD);
        due("many(0)", x.many(0), 0);
        due("run(2, 300)", x.run(2, 300), 0);
        ran("given", x, 0, 5, 1, 2, 0, 2, NONE, 0, 2);
    }

    static void promise13Deepest() {
        about("Promise 13: ran: 5 the most METHODS within one another: not those at the end");
        SiteObjects x = new Told().methods(STATIC, STATIC, STATIC).steps(0, maybe(1), call(2, 1, 2), call(2, 2, 2), clear(2))
            .steps(1, call(2, 2, 2)).work(0, 0);
        due("run(0, 300)", x.run(0, 300), 0);
        due("three, then two, then one", x.ran(5), 3);
        due("run(1, 300)", x.run(1, 300), 0);
        due("two, then one", x.ran(5), 2);
        SiteObjects y = single(above());
        due("run(0, 1)", y.run(0, 1), 0);
        due("the beginning alone", y.ran(5), 1);
    }

    static void promise14() {
        about("Promise 14: object: Of OBJECT i of the latest run (as they were made)");
        SiteObjects x = new Told(0).methods(STATIC, STATIC).steps(0, call(2, 1, 2), make(3, 1), row(4, 1, 5), store(2, 0, 3), store(2, 3, 4),
            lay(4, 0, 3), lay(4, 4, 3)).steps(1, make(2, 0), give(2)).work(0, 1);
        due("run(0, 300)", x.run(0, 300), 0);
        int[][] want = {{7, 2, 1, 0, 1, NONE, NONE, 2, NONE, NONE, NONE, NONE, NONE},
            {1, 0, 0, 1, NONE, NONE, NONE, NONE, NONE, NONE, NONE, NONE, NONE},
            {2, 1, 0, 0, NONE, NONE, NONE, NONE, 1, NONE, NONE, NONE, 1}};
        for (int i = 0; i < 3; i++) {
            for (int w = 0; w < 13; w++) {
                due("object(" + i + ", " + w + ")", x.object(i, w), want[i][w]);
            }
        }
        for (int w : new int[] {-1, 13, MIN, MAX}) {
            due("object(0, " + w + ")", x.object(0, w), BAD);
        }
        for (int i : new int[] {-1, 3, MIN, MAX}) {
            due("object(" + i + ", 0)", x.object(i, 0), BAD);
        }
        due("run(0, 2)", x.run(0, 2), SPENT);
        due("object(0, 4) of the latest run", x.object(0, 4), NONE);
        due("object(1, 0) of the latest run", x.object(1, 0), BAD);
        due("a run without OBJECTS", x.run(0, 1), SPENT);
        due("object(0, 0)", x.object(0, 0), BAD);
    }

    static void promise14WithoutARun() {
        about("Promise 14: object: BAD: also without a run");
        SiteObjects x = single(above(), make(2, 0));
        due("behind work()", x.object(0, 0), BAD);
        x.run(0, 300);
        due("behind run()", x.object(0, 0), 0);
        x.work(0, 0, 0);
        due("behind work() again", x.object(0, 0), BAD);
        x.run(0, 300);
        x.cls(0);
        due("behind a change", x.object(0, 0), BAD);
    }

    static void promise15() {
        about("Promise 15: many: How many OBJECTS of the latest run have a NAME (NONE without a run). BAD; STATE");
        SiteObjects x = new Told().methods(STATIC, STATIC).steps(0, call(2, 1, 2), call(2, 1, 2), maybe(1), call(2, 1, 2), maybe(1), make(2, 0))
            .steps(1, make(2, 0), row(3, 0, 0)).work(0, 0);
        due("without a run: many(0)", x.many(0), NONE);
        due("without a run: many(2)", x.many(2), NONE);
        due("without a run: many(3)", x.many(3), BAD);
        x.run(0, 300);
        due("many(0)", x.many(0), 1);
        due("many(1)", x.many(1), 3);
        due("many(2)", x.many(2), 3);
        x.run(3, 300);
        due("none is made: many(0)", x.many(0), 0);
        due("many(1)", x.many(1), 2);
        for (int m : new int[] {-1, 3, MIN, MAX}) {
            due("many(" + m + ")", x.many(m), BAD);
        }
        x.work(0, 0, 1);
        due("behind work(): many(0)", x.many(0), NONE);
        x.run(0, 300);
        for (int m = 0; m < 7; m++) {
            due("by DEPTH 1: many(" + m + ")", x.many(m), 1);
        }
        due("many(7)", x.many(7), BAD);
        x.cls(0);
        due("behind a change: many(0)", x.many(0), STATE);
        due("behind a change: many(-1)", x.many(-1), STATE);
    }

    static void counts(String of, SiteObjects x, int... want) {
        for (int w = 0; w < want.length; w++) {
            due(of + ": count(" + w + ")", x.count(w), want[w]);
        }
    }

    static void promise16() {
        about("Promise 16: count: 3, 4: 0 where nothing is found; 5 rounds (0 before); 6 whether all is found. BAD");
        SiteObjects x = new SiteObjects();
        counts("new", x, 1, 0, 0, 0, 0, 0, 0);
        x.cls(0);
        x.method(-1, 0);
        x.step(0, 0, 2, 0, 0, 0);
        x.step(0, 10, 2, 0, 0, 0);
        counts("told", x, 2, 1, 2, 0, 0, 0, 0);
        x.work(0, 3, 0);
        counts("work() refused", x, 2, 1, 2, 0, 0, 0, 0);
        x.work(0, 0, 1);
        counts("found", x, 2, 1, 2, 2, 2, 2, 1);
        x.run(0, 300);
        counts("run", x, 2, 1, 2, 2, 2, 2, 1);
        x.work(0, 0, 2);
        counts("found by DEPTH 2", x, 2, 1, 2, 3, 3, 2, 1);
        x.within(0, 0);
        counts("behind within()", x, 2, 1, 2, 3, 3, 2, 1);
        x.cls(3);
        counts("cls() refused", x, 2, 1, 2, 3, 3, 2, 1);
        x.method(1, 1);
        counts("changed", x, 2, 2, 2, 0, 0, 2, 0);
        for (int w : new int[] {-1, 7, MIN, MAX}) {
            due("count(" + w + ")", x.count(w), BAD);
        }
    }

    static void promise16Rounds() {
        about("Promise 16: count: 5 rounds of the latest work() by the DEPTH by which all was found");
        // By DEPTH 1 the third round finds too much: only then is there something to ask.
        Told t = new Told().methods(STATIC, STATIC, of(0, 0)).steps(0, move(4, 3)).steps(0, times(61, ask(5, 4, 0, 5))).steps(0, call(3, 1, 5))
            .steps(0, times(20, call(5, 1, 5))).steps(1, make(2, 0), give(2));
        due("work(0, 0, 1)", t.x.work(0, 0, 1), 0);
        due("count(3)", t.x.count(3), 3);
        due("rounds by DEPTH 0", t.x.count(5), 4);
        due("work(0, 1, 1)", t.x.work(0, 1, 1), 1);
        due("rounds by MODE 1", t.x.count(5), 4);
        due("work(1, 0, 1)", t.x.work(1, 0, 1), 1);
        due("rounds from METHOD 1", t.x.count(5), 2);
    }

    /** Of VARS p, q, r and w of METHOD m the last one alone holds more by DEPTH 0: NAME 0, or NAME 1. */
    static SiteObjects apart(int methods, int m, int w, boolean isFirst) {
        Told t = new Told();
        for (int i = 0; i < methods; i++) {
            t.methods(STATIC);
        }
        int[] free = {(w + 1) % 6, (w + 2) % 6, (w + 3) % 6};
        int echo = m == 1 ? 2 : 1;
        if (m != 0) {
            t.steps(0, call(5, m, 5));
        }
        t.steps(m, make(free[0], 0), make(free[1], 0), move(free[2], free[0]), move(free[2], free[1]));
        t.steps(m, call(free[2], echo, isFirst ? free[0] : free[1]), call(w, echo, isFirst ? free[1] : free[0]));
        t.steps(echo, give(1));
        return t.work(0, 1);
    }

    static void promise17() {
        about("Promise 17: within: for each VAR of each METHOD the STEPS of all its NAMES are among those found now (0 if not)");
        for (int w = 0; w < 6; w++) {
            for (int m : new int[] {0, 1, 2, 11}) {
                for (int which = 0; which < 2; which++) {
                    SiteObjects x = apart(m == 11 ? 12 : 3, m, w, which == 0);
                    String of = "VAR " + w + " of METHOD " + m + ", NAME " + which;
                    due(of + ": within(0, 0)", x.within(0, 0), 0);
                    due(of + ": within(1, 2)", x.within(1, 2), 0);
                    due(of + ": within(0, 1)", x.within(0, 1), 1);
                    due(of + ": within(0, 2)", x.within(0, 2), 1);
                    due(of + ": within(2, 1)", x.within(2, 1), 1);
                    due(of + ": work(0, 0, 0)", x.work(0, 0, 0), 0);
                    due(of + ": within(0, 1) of DEPTH 0", x.within(0, 1), 1);
                    due(of + ": within(1, 1) of DEPTH 0", x.within(1, 1), 1);
                }
            }
        }
    }

    static void promise17OfEachMethod() {
        about("Promise 17: within: for each VAR of each METHOD: what another METHOD holds does not count");
        // VAR 1 of the beginning alone holds more by DEPTH 0; METHODS 1, 2 and 3 hold all that in their VAR 1 anyway.
        Told t = new Told().methods(STATIC, STATIC, STATIC, STATIC).steps(0, make(2, 0), make(3, 0), move(4, 2), move(4, 3), call(4, 1, 2),
            call(1, 1, 3), call(5, 2, 4), call(5, 3, 4)).steps(1, give(1));
        SiteObjects x = t.work(0, 1);
        due("held(0, 1)", x.held(0, 1), 2);
        due("within(0, 0)", x.within(0, 0), 0);
        due("within(0, 2)", x.within(0, 2), 1);
        t.work(0, 0);
        due("held(0, 1) by DEPTH 0", x.held(0, 1), 3);
        due("within(0, 1) of DEPTH 0", x.within(0, 1), 1);
        // Here VAR 2 holds more than VAR 1 of the same METHOD by both.
        SiteObjects y = single(above(), make(2, 0), make(2, 0), make(1, 0));
        due("within(0, 0) of VARS apart", y.within(0, 0), 1);
    }

    static void promise17OfTheLastNames() {
        about("Promise 17: within: the STEPS of all its NAMES: of the last ones as well");
        Told t = new Told().methods(STATIC, STATIC).steps(0, times(53, make(5, 0))).steps(0, make(2, 0), make(3, 0), move(4, 2), move(4, 3),
            call(4, 1, 3), call(0, 1, 2)).steps(1, give(1));
        SiteObjects x = t.work(0, 1);
        due("held(0, 0)", x.held(0, 0), 1L << 53);
        due("NAME 54 is more: within(0, 0)", x.within(0, 0), 0);
        due("within(0, 1)", x.within(0, 1), 1);
        t.work(0, 0);
        due("held(0, 0)", x.held(0, 0), 3L << 53);
        due("within(0, 1) of DEPTH 0", x.within(0, 1), 1);
    }

    static void promise17BySteps() {
        about("Promise 17: within: by STEPS, nothing more: of all its NAMES in all NODES");
        Told t = new Told().methods(STATIC, STATIC, STATIC).steps(0, make(3, 0), make(4, 0), call(2, 1, 3), call(2, 1, 4), call(5, 2, 5))
            .steps(1, make(2, 0), make(4, 0)).steps(2, row(2, 0, 1));
        SiteObjects x = t.work(0, 1);
        due("two NODES hold what one does", x.within(0, 0), 1);
        due("two NODES hold what one does, MODE 1", x.within(1, 2), 1);
        t.work(0, 0);
        due("one NODE holds what two do, with other NAMES", x.within(0, 1), 1);
        due("one NODE holds what two do, MODE 2", x.within(2, 2), 1);
    }

    static void promise17AnotherDepth() {
        about("Promise 17: within: what another MODE and DEPTH find: by a DEPTH that is one less, if there would be too many");
        // By DEPTH 1 there would be 82 NODES, so that within(0, 1) is what DEPTH 0 finds.
        Told t = new Told().methods(STATIC, STATIC, of(0, 0)).steps(0, make(2, 0), make(3, 0), move(4, 2), move(4, 3), ask(4, 2, 0, 2), ask(5, 3, 0, 3))
            .steps(0, times(79, call(1, 1, 1))).steps(2, give(1));
        SiteObjects x = t.x;
        due("work(0, 1, 1)", x.work(0, 1, 1), 1);
        due("held(0, 5)", x.held(0, 5), 2);
        due("within(0, 1)", x.within(0, 1), 0);
        due("within(1, 1)", x.within(1, 1), 1);
        due("within(1, 0)", x.within(1, 0), 0);
        due("count(3)", x.count(3), 4);
        due("held(0, 5) behind it", x.held(0, 5), 2);
    }

    static void promise17Refused() {
        about("Promise 17: within: BAD; STATE");
        SiteObjects x = single(above());
        for (int w : new int[] {-1, 3, MIN, MAX}) {
            due("within(" + w + ", 0)", x.within(w, 0), BAD);
            due("within(0, " + w + ")", x.within(0, w), BAD);
        }
        for (int mode = 0; mode < 3; mode++) {
            for (int depth = 0; depth < 3; depth++) {
                due("where there is nothing: within(" + mode + ", " + depth + ")", x.within(mode, depth), 1);
            }
        }
        x.cls(0);
        due("within(0, 0) behind a change", x.within(0, 0), STATE);
        due("within(0, 3) behind a change", x.within(0, 3), BAD);
    }

    public static void main(String[] args) throws Exception {
        runAll(PromiseEdgesTest.class);
    }
}
