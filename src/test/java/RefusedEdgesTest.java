import java.util.ArrayList;
import java.util.List;
import java.util.function.Supplier;

/**
 * "Refused, and nothing changes, the first of these: BAD .., STATE .., FULL.": for each call what it is refused with
 * in each state, and that all that can be asked is then as without the call.
 */
public final class RefusedEdgesTest extends Dues {
    interface Call {
        long on(SiteObjects x);
    }

    record Named(String text, Call call) { }

    static Told program() {
        return new Told(0).methods(STATIC, of(0, 0), STATIC)
            .steps(0, make(2, 0), make(3, 1), ask(4, 2, 0, 3), call(5, 2, 3), put(1, 3), give(4))
            .steps(1, row(2, 0, 2), lay(2, 1, 1), give(2)).steps(2, ask(2, 1, 0, 1), maybe(1), store(1, 3, 1));
    }

    static SiteObjects told() {
        return program().x;
    }

    /** Four NODES, four NAMES. */
    static SiteObjects found() {
        return program().work(0, 1);
    }

    static SiteObjects run() {
        SiteObjects x = found();
        due("run(0, 300)", x.run(0, 300), 0);
        return x;
    }

    static SiteObjects changed() {
        SiteObjects x = run();
        due("cls(1)", x.cls(1), 2);
        return x;
    }

    /** As many CLASSES, METHODS, MAKES and STEPS as there may be; found, and run. */
    static SiteObjects full() {
        SiteObjects x = told();
        for (int c = 2; c < 10; c++) {
            x.cls(1);
        }
        for (int m = 3; m < 12; m++) {
            x.method(m - 2, 7);
        }
        for (int s = 12; s < 64; s++) {
            x.step(11, s % 2, 2, 0, 0, 0);
        }
        for (int s = 64; s < 90; s++) {
            x.step(11, 3, 2, 0, 0, 0);
        }
        x.work(0, 0, 1);
        x.run(0, 300);
        return x;
    }

    /** All that can be asked of the program, and what some calls that change it answer then. */
    static String print(SiteObjects x) {
        StringBuilder all = new StringBuilder();
        printCounts(all, x);
        for (int i = 0; i < 4; i++) {
            all.append(" g").append(x.global(i)).append(" m").append(x.many(i));
            for (int w = 0; w < 5; w++) {
                all.append(' ').append(x.name(i, w)).append(' ').append(x.inside(i, w)).append(' ').append(x.node(i, w));
            }
            for (int w = 0; w < 8; w++) {
                all.append(' ').append(x.held(i, w));
            }
            for (int w = 0; w < 13; w++) {
                all.append(' ').append(x.object(i, w));
            }
        }
        all.append(" leads ").append(x.leads(0, 2, 0)).append(' ').append(x.leads(0, 3, 0)).append(' ').append(x.leads(2, 9, 0));
        all.append(" within ").append(x.within(0, 0)).append(' ').append(x.within(1, 2)).append(' ').append(x.within(2, 1));
        all.append(" then ").append(x.run(1, 300));
        printCounts(all, x);
        all.append(" then ").append(x.cls(1)).append(' ').append(x.method(-1, 0)).append(' ').append(x.method(0, 5));
        all.append(' ').append(x.step(0, 1, 2, 1, 2, 0)).append(' ').append(x.step(0, 3, 0, 0, 0, 0)).append(' ').append(x.work(0, 2, 2));
        all.append(' ').append(x.run(0, 7));
        printCounts(all, x);
        return all.toString();
    }

    static void printCounts(StringBuilder all, SiteObjects x) {
        for (int w = 0; w < 7; w++) {
            all.append(" c").append(x.count(w));
        }
        for (int w = 0; w < 9; w++) {
            all.append(" r").append(x.ran(w));
        }
    }

    /** Each of these calls is refused so in a state, and changes nothing. */
    static void refused(String of, Supplier<SiteObjects> state, int want, List<Named> calls) {
        String before = print(state.get());
        for (Named it : calls) {
            SiteObjects x = state.get();
            due(of + ": " + it.text, it.call.on(x), want);
            due(of + ": all behind " + it.text, print(x), before);
        }
    }

    static void eachState(int want, List<Named> calls) {
        refused("new", SiteObjects::new, want, calls);
        refused("told", RefusedEdgesTest::told, want, calls);
        refused("found", RefusedEdgesTest::found, want, calls);
        refused("run", RefusedEdgesTest::run, want, calls);
        refused("changed", RefusedEdgesTest::changed, want, calls);
        refused("full", RefusedEdgesTest::full, want, calls);
    }

    static void eachStateWithoutFinding(int want, List<Named> calls) {
        refused("told", RefusedEdgesTest::told, want, calls);
        refused("changed", RefusedEdgesTest::changed, want, calls);
    }

    static void eachStateWithFinding(int want, List<Named> calls) {
        refused("found", RefusedEdgesTest::found, want, calls);
        refused("run", RefusedEdgesTest::run, want, calls);
        refused("full", RefusedEdgesTest::full, want, calls);
    }

    static void addCls(List<Named> calls, int above) {
        calls.add(new Named("cls(" + above + ")", x -> x.cls(above)));
    }

    static void addMethod(List<Named> calls, int cls, int selector) {
        calls.add(new Named("method(" + cls + ", " + selector + ")", x -> x.method(cls, selector)));
    }

    static void addStep(List<Named> calls, int method, int... s) {
        calls.add(new Named("step(" + method + ", " + s[0] + ", " + s[1] + ", " + s[2] + ", " + s[3] + ", " + s[4] + ")",
            x -> x.step(method, s[0], s[1], s[2], s[3], s[4])));
    }

    static void addWork(List<Named> calls, int method, int mode, int depth) {
        calls.add(new Named("work(" + method + ", " + mode + ", " + depth + ")", x -> x.work(method, mode, depth)));
    }

    static void addLeads(List<Named> calls, int node, int step, int i) {
        calls.add(new Named("leads(" + node + ", " + step + ", " + i + ")", x -> x.leads(node, step, i)));
    }

    static void addOfName(List<Named> calls, int name, int what) {
        calls.add(new Named("name(" + name + ", " + what + ")", x -> x.name(name, what)));
        calls.add(new Named("inside(" + name + ", " + what + ")", x -> x.inside(name, what)));
    }

    static void addOfNode(List<Named> calls, int node, int what, int var) {
        calls.add(new Named("node(" + node + ", " + what + ")", x -> x.node(node, what)));
        calls.add(new Named("held(" + node + ", " + var + ")", x -> x.held(node, var)));
    }

    static void addMany(List<Named> calls, int name) {
        calls.add(new Named("many(" + name + ")", x -> x.many(name)));
    }

    static void addRun(List<Named> calls, int steps) {
        calls.add(new Named("run(5, " + steps + ")", x -> x.run(5, steps)));
    }

    static void addWithin(List<Named> calls, int mode, int depth) {
        calls.add(new Named("within(" + mode + ", " + depth + ")", x -> x.within(mode, depth)));
    }

    static void addObject(List<Named> calls, int i, int what) {
        calls.add(new Named("object(" + i + ", " + what + ")", x -> x.object(i, what)));
    }

    static void tellingIsBad() {
        about("Refused, and nothing changes: BAD (a number is not as told, or there is no such thing): cls, method, step");
        List<Named> calls = new ArrayList<>();
        for (int c : new int[] {-1, 10, MIN, MAX}) {
            addCls(calls, c);
        }
        for (int c : new int[] {-2, 10, MIN, MAX}) {
            addMethod(calls, c, 6);
        }
        for (int s : new int[] {-1, 8, MIN, MAX}) {
            addMethod(calls, 0, s);
        }
        for (int m : new int[] {-1, 12, MIN, MAX}) {
            addStep(calls, m, clear(0));
        }
        for (int k : new int[] {-1, 17, MIN, MAX}) {
            addStep(calls, 0, k, 0, 0, 0, 0);
        }
        addStep(calls, 0, make(6, 0));
        addStep(calls, 0, make(2, 10));
        addStep(calls, 0, row(2, 0, 6));
        addStep(calls, 0, call(2, 1, 2));
        addStep(calls, 0, call(2, 12, 2));
        addStep(calls, 0, maybe(0));
        addStep(calls, 0, guard(2, 31, 0));
        eachState(BAD, calls);
    }

    static void tellingTwiceIsBad() {
        about("BAD: also, if there is one of both");
        List<Named> calls = new ArrayList<>();
        addMethod(calls, 0, 0);
        eachStateWithoutFinding(BAD, calls);
        eachStateWithFinding(BAD, calls);
    }

    static void workIsBad() {
        about("Refused, and nothing changes: BAD: work: MODE, DEPTH, no STATIC METHOD");
        List<Named> calls = new ArrayList<>();
        for (int m : new int[] {-1, 1, 12, MIN, MAX}) {
            addWork(calls, m, 0, 0);
        }
        for (int wrong : new int[] {-1, 3, MIN, MAX}) {
            addWork(calls, 0, wrong, 0);
            addWork(calls, 0, 0, wrong);
        }
        eachState(BAD, calls);
    }

    static void askingIsBad() {
        about("BAD ahead of STATE: a number is not as told, whatever was found");
        List<Named> calls = new ArrayList<>();
        for (int w : new int[] {-1, 5, MIN, MAX}) {
            addOfName(calls, 0, w);
            addOfName(calls, -1, w);
            addOfNode(calls, 0, w, w == 5 ? 8 : w);
            addOfNode(calls, -1, w, w == 5 ? 8 : w);
        }
        for (int g : new int[] {-1, 4, MIN, MAX}) {
            calls.add(new Named("global(" + g + ")", x -> x.global(g)));
        }
        for (int s : new int[] {0, -301, 301, MIN, MAX}) {
            addRun(calls, s);
        }
        for (int w : new int[] {-1, 9, MIN, MAX}) {
            calls.add(new Named("ran(" + w + ")", x -> x.ran(w)));
            calls.add(new Named("count(" + w + ")", x -> x.count(w == 9 ? 7 : w)));
        }
        for (int w : new int[] {-1, 3, MIN, MAX}) {
            addWithin(calls, w, 0);
            addWithin(calls, 0, w);
        }
        for (int w : new int[] {-1, 13, MIN, MAX}) {
            addObject(calls, 0, w);
        }
        for (int i : new int[] {-1, 300, MIN, MAX}) {
            addObject(calls, i, 0);
        }
        for (int s : new int[] {-1, 0, 5, 6, 90, MIN, MAX}) {
            addLeads(calls, 0, s, 0);
            addLeads(calls, -1, s, -1);
        }
        eachState(BAD, calls);
    }

    static void nothingWasFound() {
        about("STATE (nothing was found since the PROGRAM was changed last; asked ahead of whether there is such a NAME or NODE)");
        List<Named> calls = new ArrayList<>();
        for (int n : new int[] {0, 3, 4, 60, 80, -1, MIN, MAX}) {
            for (int w = 0; w < 5; w++) {
                addOfName(calls, n, w);
                addOfNode(calls, n, w, w == 4 ? 7 : w);
            }
            addMany(calls, n);
        }
        for (int g = 0; g < 4; g++) {
            int global = g;
            calls.add(new Named("global(" + g + ")", x -> x.global(global)));
        }
        addRun(calls, 1);
        addRun(calls, 300);
        for (int mode = 0; mode < 3; mode++) {
            for (int depth = 0; depth < 3; depth++) {
                addWithin(calls, mode, depth);
            }
        }
        refused("new", SiteObjects::new, STATE, calls);
        for (int n : new int[] {0, 1, 4, 80, -1, MIN, MAX}) {
            // STEP 9 is of METHOD 2: that is asked behind STATE.
            for (int s : new int[] {2, 3, 9}) {
                addLeads(calls, n, s, 0);
                addLeads(calls, n, s, -1);
            }
        }
        eachStateWithoutFinding(STATE, calls);
    }

    static void noSuchNameOrNode() {
        about("BAD (there is no such thing): behind STATE, a NAME or NODE that there is not");
        List<Named> calls = new ArrayList<>();
        for (int n : new int[] {4, 59, 60, 79, 80, -1, MIN, MAX}) {
            for (int w = 0; w < 5; w++) {
                addOfName(calls, n, w);
                addOfNode(calls, n, w, w == 4 ? 7 : w);
            }
            addMany(calls, n);
            addLeads(calls, n, 2, 0);
        }
        eachStateWithFinding(BAD, calls);
    }

    static void aStepOfAnotherMethod() {
        about("BAD: also another STEP (behind STATE: one of another METHOD)");
        List<Named> calls = new ArrayList<>();
        addLeads(calls, 0, 9, 0);
        addLeads(calls, 1, 2, 0);
        addLeads(calls, 1, 9, 0);
        addLeads(calls, 2, 2, 0);
        addLeads(calls, 2, 3, -1);
        addLeads(calls, 3, 9, 7);
        eachStateWithFinding(BAD, calls);
    }

    static void withoutARun() {
        about("object: BAD: also without a run");
        List<Named> calls = new ArrayList<>();
        for (int i = 0; i < 5; i++) {
            for (int w = 0; w < 13; w++) {
                addObject(calls, i, w);
            }
        }
        refused("new", SiteObjects::new, BAD, calls);
        eachStateWithoutFinding(BAD, calls);
        refused("found", RefusedEdgesTest::found, BAD, calls);
    }

    static void thereIsNoRoom() {
        about("Refused, and nothing changes: FULL");
        List<Named> calls = new ArrayList<>();
        addCls(calls, 0);
        addCls(calls, 9);
        addMethod(calls, -1, 0);
        addMethod(calls, -1, MIN);
        addMethod(calls, 0, 1);
        addMethod(calls, 9, 0);
        for (int[] s : new int[][] {make(0, 9), row(0, 0, 5), move(0, 0), clear(5), ask(0, 0, 7, 0), call(0, 2, 0), give(0), maybe(30),
            raise(0), guard(0, 1, 9)}) {
            addStep(calls, 0, s);
            addStep(calls, 11, s);
        }
        refused("full", RefusedEdgesTest::full, FULL, calls);
    }

    static SiteObjects fiftyFive() {
        SiteObjects x = told();
        for (int s = 12; s < 64; s++) {
            x.step(2, s % 2, 2, 0, 0, 0);
        }
        x.work(0, 1, 1);
        x.run(1, 300);
        return x;
    }

    static void thereIsNoRoomForMakes() {
        about("FULL: 90, or 55 of 0, 1");
        List<Named> calls = new ArrayList<>();
        addStep(calls, 0, make(0, 0));
        addStep(calls, 1, row(0, 0, 0));
        refused("55 MAKES and ROWS", RefusedEdgesTest::fiftyFive, FULL, calls);
        due("another KIND", fiftyFive().step(0, 3, 0, 0, 0, 0), 64);
    }

    static void badAheadOfFull() {
        about("the first of these: BAD ahead of FULL");
        List<Named> calls = new ArrayList<>();
        addCls(calls, 10);
        addCls(calls, -1);
        addMethod(calls, 0, 0);
        addMethod(calls, 10, 0);
        addMethod(calls, -2, 0);
        addMethod(calls, 0, 8);
        addStep(calls, 12, clear(0));
        addStep(calls, 0, clear(6));
        addStep(calls, 0, make(0, 10));
        addStep(calls, 0, row(0, 0, -1));
        addStep(calls, 0, 17, 0, 0, 0, 0);
        refused("full", RefusedEdgesTest::full, BAD, calls);
        List<Named> makes = new ArrayList<>();
        addStep(makes, 0, make(0, 2));
        addStep(makes, 0, make(-1, 0));
        addStep(makes, 3, make(0, 0));
        addStep(makes, 0, row(0, 0, 6));
        refused("55 MAKES and ROWS", RefusedEdgesTest::fiftyFive, BAD, makes);
    }

    static void eachChangeCallsForWork() {
        about("nothing was found since the PROGRAM was changed last: a CLASS, a METHOD and a STEP change it");
        Named[] changes = {new Named("cls(0)", x -> x.cls(0)), new Named("method(-1, 0)", x -> x.method(-1, 0)),
            new Named("method(1, 7)", x -> x.method(1, 7)), new Named("step(2, 3, ..)", x -> x.step(2, 3, 0, 0, 0, 0))};
        for (Named it : changes) {
            SiteObjects x = run();
            due(it.text + " is not refused", it.call.on(x) >= 0 ? 1 : 0, 1);
            due("held behind " + it.text, x.held(0, 0), STATE);
            due("run behind " + it.text, x.run(0, 300), STATE);
            due("many behind " + it.text, x.many(0), STATE);
            due("ran behind " + it.text, x.ran(0), NONE);
            due("object behind " + it.text, x.object(0, 0), BAD);
            due("count(3) behind " + it.text, x.count(3), 0);
            due("count(4) behind " + it.text, x.count(4), 0);
            due("count(6) behind " + it.text, x.count(6), 0);
            due("work refused", x.work(1, 0, 0), BAD);
            due("held behind a work() that was refused", x.held(0, 0), STATE);
            due("work behind " + it.text, x.work(0, 0, 1), 1);
            due("held behind work()", x.held(0, 2), 1);
            due("ran behind work()", x.ran(0), NONE);
            due("many behind work()", x.many(0), NONE);
            due("object behind work()", x.object(0, 0), BAD);
            due("run behind work()", x.run(0, 300), 0);
        }
    }

    static void askingChangesNothing() {
        about("what only asks changes nothing");
        List<Named> calls = new ArrayList<>();
        calls.add(new Named("within(0, 0)", x -> x.within(0, 0) * 0));
        calls.add(new Named("within(1, 2)", x -> x.within(1, 2) * 0));
        calls.add(new Named("leads(0, 2, 0)", x -> x.leads(0, 2, 0) * 0));
        calls.add(new Named("count(5)", x -> x.count(5) * 0));
        calls.add(new Named("held(0, 0)", x -> x.held(0, 0) * 0));
        eachStateWithFinding(0, calls);
    }

    public static void main(String[] args) throws Exception {
        runAll(RefusedEdgesTest.class);
    }
}
