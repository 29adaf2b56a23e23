/** "Terms", part 2: what is found; each sentence that names an edge has a test of its own. */
public final class FoundEdgesTest extends Dues {

    /** The METHOD and the CONTEXT of each NODE, by number. */
    static void contexts(String of, SiteObjects x, int[]... want) {
        due(of + ": count(3)", x.count(3), want.length);
        for (int n = 0; n < want.length; n++) {
            due(of + ": node(" + n + ", 0)", x.node(n, 0), want[n][0]);
            due(of + ": node(" + n + ", 1)", x.node(n, 1), want[n].length > 1 ? want[n][1] : NONE);
            due(of + ": node(" + n + ", 2)", x.node(n, 2), want[n].length > 2 ? want[n][2] : NONE);
        }
    }

    static int[] n(int... methodAndContext) {
        return methodAndContext;
    }

    /** STATIC METHODS and asked ones by turns, nine within one another; STEPS 2, 5 and 8 make what is asked. */
    static Told ladder() {
        return new Told().methods(STATIC, STATIC, STATIC, of(0, 0), STATIC, of(0, 1), STATIC, of(0, 2), of(0, 3))
            .steps(0, call(3, 1, 2)).steps(1, call(3, 2, 2)).steps(2, make(2, 0), ask(3, 2, 0, 2)).steps(3, call(3, 4, 2))
            .steps(4, make(2, 0), ask(3, 2, 1, 2)).steps(5, call(3, 6, 2)).steps(6, make(2, 0), ask(3, 2, 2, 2))
            .steps(7, ask(3, 0, 3, 2));
    }

    static void depthZero() {
        about("a CONTEXT, a row of k numbers or fewer: k = 0");
        for (int mode = 0; mode < 3; mode++) {
            contexts("MODE " + mode, ladder().work(mode, 0), n(0), n(1), n(2), n(3), n(4), n(5), n(6), n(7), n(8));
        }
    }

    static void callersDepthOne() {
        about("MODE 0: the CONTEXT is s and the NODE's behind it; of all the first k numbers alone: k = 1");
        contexts("ladder", ladder().work(0, 1), n(0), n(1, 0), n(2, 1), n(3, 3), n(4, 4), n(5, 6), n(6, 7), n(7, 9), n(8, 10));
    }

    static void callersDepthTwo() {
        about("MODE 0: the CONTEXT is s and the NODE's behind it; of all the first k numbers alone: k = 2");
        contexts("ladder", ladder().work(0, 2), n(0), n(1, 0), n(2, 1, 0), n(3, 3, 1), n(4, 4, 3), n(5, 6, 4), n(6, 7, 6),
            n(7, 9, 7), n(8, 10, 9));
    }

    static void receiversDepthOne() {
        about("MODE 1: ASKED: the STEP that makes the RECEIVER, 100 more, and the CONTEXT of its NAME; CALLED: the NODE's own: k = 1");
        contexts("ladder", ladder().work(1, 1), n(0), n(1), n(2), n(3, 102), n(4, 102), n(5, 105), n(6, 105), n(7, 108), n(8, 108));
    }

    static void receiversDepthTwo() {
        about("MODE 1: ASKED: the STEP that makes the RECEIVER, 100 more, and the CONTEXT of its NAME; CALLED: the NODE's own: k = 2");
        contexts("ladder", ladder().work(1, 2), n(0), n(1), n(2), n(3, 102), n(4, 102), n(5, 105, 102), n(6, 105, 102),
            n(7, 108, 105), n(8, 108, 105));
    }

    static void bothDepthOne() {
        about("MODE 2: ASKED as in 1, CALLED as in 0: k = 1");
        contexts("ladder", ladder().work(2, 1), n(0), n(1, 0), n(2, 1), n(3, 102), n(4, 4), n(5, 105), n(6, 7), n(7, 108), n(8, 108));
    }

    static void bothDepthTwo() {
        about("MODE 2: ASKED as in 1, CALLED as in 0: k = 2");
        contexts("ladder", ladder().work(2, 2), n(0), n(1, 0), n(2, 1, 0), n(3, 102, 1), n(4, 4, 102), n(5, 105, 4), n(6, 7, 105),
            n(7, 108, 7), n(8, 108, 7));
    }

    static void runsComeToTheSameNodes() {
        about("NAMES of OBJECTS: the MAKE or ROW, and the CONTEXT of the NODE in which it is done: in runs as well");
        for (int mode = 0; mode < 3; mode++) {
            for (int depth = 0; depth < 3; depth++) {
                SiteObjects x = ladder().work(mode, depth);
                gives("MODE " + mode + ", DEPTH " + depth, x, 0, NONE);
                for (int i = 0; i < 3; i++) {
                    due("object(" + i + ", 0)", x.object(i, 0), 2 + 3 * i);
                    due("object(" + i + ", 1)", x.object(i, 1), i);
                    due("object(" + i + ", 2)", x.object(i, 2), 2 + 2 * i);
                    due("name(" + i + ", 3)", x.name(i, 3), 2 + 2 * i);
                }
            }
        }
    }

    static void theGreatestNumbersOfSteps() {
        about("the number of the STEP that makes the RECEIVER, 100 more: up to 189; s up to 89");
        Told t = new Told().methods(STATIC, of(0, 0), STATIC).steps(0, ask(3, 2, 0, 2)).steps(2, times(88, clear(3))).steps(0, make(2, 0));
        contexts("STEP 89 makes", t.work(1, 1), n(0), n(1, 189));
        contexts("STEP 89 makes", t.work(2, 2), n(0), n(1, 189));
        contexts("STEP 0 asks", t.work(0, 2), n(0), n(1, 0));
        Told u = new Told().methods(STATIC, STATIC, STATIC).steps(1, call(2, 2, 2)).steps(2, times(88, clear(3))).steps(0, call(2, 1, 2));
        contexts("STEP 89 calls", u.work(0, 2), n(0), n(1, 89), n(2, 0, 89));
        Told v = new Told().methods(STATIC, of(0, 0), of(0, 1)).steps(1, make(2, 0), ask(3, 2, 1, 2)).steps(2, times(86, clear(3)))
            .steps(0, ask(3, 2, 0, 2), make(2, 0));
        contexts("STEP 89 makes what makes", v.work(1, 2), n(0), n(1, 189), n(2, 100, 189));
    }

    static void theBeginningIsEmpty() {
        about("of the one with which a run begins it is empty");
        Told t = new Told().methods(STATIC).steps(0, make(3, 0), call(2, 0, 3));
        contexts("MODE 0, DEPTH 0", t.work(0, 0), n(0));
        contexts("MODE 0, DEPTH 1", t.work(0, 1), n(0), n(0, 1));
        contexts("MODE 0, DEPTH 2", t.work(0, 2), n(0), n(0, 1), n(0, 1, 1));
        contexts("MODE 1, DEPTH 2: called with its own", t.work(1, 2), n(0));
        contexts("MODE 2, DEPTH 2", t.work(2, 2), n(0), n(0, 1), n(0, 1, 1));
        sets("MODE 2, DEPTH 2", t.x, 0, 0, 0, 0, 1);
        sets("MODE 2, DEPTH 2", t.x, 1, 0, 1, 0, 2);
        sets("MODE 2, DEPTH 2", t.x, 2, 0, 2 | 4, 0, 4);
    }

    static void sameMethodAndContextIsOneNode() {
        about("NODES are METHODS with a CONTEXT");
        Told t = new Told().methods(STATIC, of(0, 0)).steps(0, make(2, 0), make(3, 0), ask(4, 2, 0, 2), ask(4, 2, 0, 2), ask(4, 3, 0, 2));
        contexts("by CALLERS", t.work(0, 1), n(0), n(1, 2), n(1, 3), n(1, 4));
        contexts("by RECEIVERS", t.work(1, 1), n(0), n(1, 100), n(1, 101));
        contexts("by BOTH", t.work(2, 1), n(0), n(1, 100), n(1, 101));
        contexts("by nothing", t.work(2, 0), n(0), n(1));
        Told u = new Told().methods(STATIC, STATIC, STATIC).steps(0, call(2, 1, 2), call(2, 1, 2)).steps(1, call(2, 2, 2));
        contexts("the second number alone differs", u.work(0, 2), n(0), n(1, 0), n(1, 1), n(2, 2, 0), n(2, 2, 1));
        contexts("there is no second number", u.work(0, 1), n(0), n(1, 0), n(1, 1), n(2, 2));
    }

    static void namesByStepAndContext() {
        about("NAMES of OBJECTS: the MAKE or ROW, and the CONTEXT of the NODE in which it is done");
        Told t = new Told().methods(STATIC, STATIC).steps(0, call(2, 1, 2), call(3, 1, 2)).steps(1, make(2, 0), row(3, 0, 1), give(2));
        SiteObjects x = t.work(0, 1);
        int[][] names = {{2, 1}, {3, 1}, {2, 2}, {3, 2}};
        due("count(4)", x.count(4), 4);
        for (int m = 0; m < 4; m++) {
            due("name(" + m + ", 0)", x.name(m, 0), names[m][0]);
            due("name(" + m + ", 2)", x.name(m, 2), m % 2);
            due("name(" + m + ", 3)", x.name(m, 3), names[m][1]);
        }
        sets("two CALLS", x, 0, 0, 0, 1, 4);
        t.work(1, 1);
        due("one NODE: count(4)", x.count(4), 2);
        sets("one NODE", x, 0, 0, 0, 1, 1);
    }

    static void roundsOverNodesByNumber() {
        about("by rounds over all NODES by number (also those that come meanwhile), in each over all STEPS of its METHOD in order");
        Told t = new Told().methods(STATIC, STATIC, STATIC, STATIC, STATIC).steps(0, call(2, 3, 5), call(2, 1, 5)).steps(1, make(2, 0))
            .steps(2, make(2, 0)).steps(3, make(2, 0), call(2, 4, 5), call(2, 2, 5), make(3, 0)).steps(4, make(2, 0)).steps(0, make(2, 0));
        SiteObjects x = t.work(0, 0);
        contexts("NODES", x, n(0), n(3), n(1), n(4), n(2));
        int[] steps = {9, 4, 7, 2, 8, 3};
        due("count(4)", x.count(4), steps.length);
        for (int m = 0; m < steps.length; m++) {
            due("name(" + m + ", 0)", x.name(m, 0), steps[m]);
        }
        due("all came in the first round: count(5)", x.count(5), 2);
    }

    static void roundsTillNothingIsNew() {
        about("till a round finds nothing new");
        due("no STEP", single(above()).count(5), 1);
        due("a STEP that finds nothing", single(above(), clear(2)).count(5), 1);
        due("a NAME", single(above(), make(2, 0)).count(5), 2);
        due("a NODE alone", new Told().methods(STATIC, STATIC).steps(0, call(2, 1, 2)).work(0, 0).count(5), 2);
        due("the NODE of the beginning is no new one", new Told().methods(STATIC).steps(0, call(2, 0, 2)).work(0, 0).count(5), 1);
        due("in order", single(above(), make(2, 0), move(3, 2), move(4, 3), move(5, 4)).count(5), 2);
        due("backward", single(above(), move(5, 4), move(4, 3), move(3, 2), make(2, 0)).count(5), 5);
    }

    /** Round 1 makes, round 2 moves, round 3 fills one set alone, round 4 brings it to VAR 4, round 5 finds nothing. */
    static void fiveRounds(String of, SiteObjects x) {
        due(of + ": count(5)", x.count(5), 5);
        due(of + ": held(0, 4)", x.held(0, 4), 1);
    }

    static void whatIsNew() {
        about("till a round finds nothing new: in a VAR, a FIELD, the PLACES, a GLOBAL, in what is given or raised");
        fiveRounds("a VAR", single(above(), move(4, 5), move(5, 3), move(3, 2), make(2, 0)));
        fiveRounds("a FIELD", single(above(), load(4, 3, 2), store(3, 2, 3), move(3, 2), make(2, 0)));
        fiveRounds("the PLACES", single(above(), take(4, 3, 2), lay(3, 1, 3), move(3, 2), row(2, 0, 0)));
        fiveRounds("a GLOBAL", single(above(), get(4, 3), put(3, 3), move(3, 2), make(2, 0)));
        Told gives = new Told().methods(STATIC, STATIC).steps(0, call(4, 1, 5)).steps(1, give(3), move(3, 2), make(2, 0));
        fiveRounds("what is given", gives.work(0, 0));
        Told raises = new Told().methods(STATIC, STATIC).steps(0, guard(4, 1, 0), call(5, 1, 5)).steps(1, raise(3), move(3, 2), make(2, 0));
        fiveRounds("what is raised", raises.work(0, 0));
    }

    static void byTheNumbersOfNames() {
        about("in a STEP by the numbers of the NAMES that b holds");
        int[][] methods = {STATIC, of(1, 0), of(2, 0)};
        Told t = new Told(0, 0).methods(methods).steps(0, make(2, 2), make(2, 1), ask(3, 2, 0, 2));
        contexts("CLASS 2 is made first", t.work(0, 0), n(0), n(2), n(1));
        Told u = new Told(0, 0).methods(methods).steps(0, make(2, 1), make(2, 2), ask(3, 2, 0, 2));
        contexts("CLASS 1 is made first", u.work(0, 0), n(0), n(1), n(2));
        Told v = new Told().methods(STATIC, of(0, 0)).steps(0, make(3, 0), make(2, 0), move(2, 3), ask(3, 2, 0, 2));
        contexts("the first NAME comes later", v.work(1, 1), n(0), n(1, 100), n(1, 101));
    }

    static void asItIsComeTo() {
        about("that b holds as it is come to");
        // In round 2 the ASK brings NAME 1 to its own b; the ASK behind it meets NAME 1 ahead of it.
        Told t = new Told(0, 0).methods(STATIC, of(1, 0), of(2, 0), of(2, 1))
            .steps(0, make(2, 1), ask(2, 2, 0, 2), ask(5, 2, 1, 2)).steps(1, make(2, 2), give(2));
        contexts("what comes meanwhile waits", t.work(0, 0), n(0), n(1), n(3), n(2));
        due("count(5)", t.x.count(5), 4);
    }

    static void allStepsCount() {
        about("For each NODE that is found all its STEPS count (also those that no run may come to)");
        SiteObjects x = new Told().methods(STATIC, STATIC).steps(0, give(2), make(2, 0), call(3, 1, 2)).steps(1, make(2, 0), give(2)).work(0, 0);
        sets("behind a GIVE", x, 0, 0, 0, 1, 2, 0, 0, 1, 0);
        sets("called behind a GIVE", x, 1, 0, 1, 2, 0, 0, 0, 2, 0);
        gives("behind a GIVE", x, 0, NONE);
        SiteObjects y = single(above(), load(3, 2, 0), make(2, 0), store(2, 0, 2));
        sets("behind what fails", y, 0, 0, 0, 1, 1);
        fails("behind what fails", y, NULL, 0);
        SiteObjects z = single(above(), make(2, 0), raise(2), move(3, 2));
        sets("behind a RAISE", z, 0, 0, 0, 1, 1, 0, 0, 0, 1);
        SiteObjects w = new Told().methods(STATIC, STATIC).steps(1, make(2, 0), put(0, 2)).steps(0, get(2, 0)).work(0, 0);
        due("a METHOD that is not found: count(4)", w.count(4), 0);
        due("a METHOD that is not found: global(0)", w.global(0), 0);
    }

    static void nothingIsTakenFromASet() {
        about("They are the least ones with: sets grow alone, CLEAR and what becomes another thing take nothing away");
        SiteObjects x = single(above(), make(2, 0), make(2, 0), clear(2), move(3, 2), move(2, 4));
        sets("VARS", x, 0, 0, 0, 3, 3, 0, 0, 0, 0);
        SiteObjects y = single(above(), make(2, 0), make(3, 0), store(2, 0, 3), store(2, 0, 4), put(0, 2), put(0, 4));
        due("a FIELD", y.inside(0, 0), 2);
        due("a GLOBAL", y.global(0), 1);
    }

    static void leastSets() {
        about("They are the least ones with: MAKE, ROW: the NAME is in a. MOVE: what is in b is in a");
        SiteObjects x = single(above(), make(2, 0), row(3, 0, 1), make(4, 0), move(5, 4), move(4, 3));
        sets("VARS", x, 0, 0, 0, 1, 2, 6, 6, 0, 0);
    }

    static void fieldsOfWhatIsNoRow() {
        about("LOAD, STORE: for each NAME in b (or a) that is no ROW: what is in that FIELD of it is in a, what is in b is in that");
        // VAR 2 holds a ROW and two OBJECTS, VAR 3 another OBJECT.
        SiteObjects x = single(above(), row(2, 0, 1), make(2, 0), make(2, 0), make(3, 0), store(2, 1, 3), lay(2, 0, 2),
            load(4, 2, 1), load(5, 2, 2));
        long[][] want = {{0, 0, 0, 0, 7}, {0, 8, 0, 0, 0}, {0, 8, 0, 0, 0}, {0, 0, 0, 0, 0}};
        for (int m = 0; m < 4; m++) {
            for (int f = 0; f < 5; f++) {
                due("inside(" + m + ", " + f + ")", x.inside(m, f), want[m][f]);
            }
        }
        sets("VARS", x, 0, 0, 0, 7, 8, 8, 0, 0, 0);
        SiteObjects y = single(above(), make(2, 0), make(3, 0), make(4, 0), store(2, 0, 3), store(3, 0, 4), load(2, 2, 0));
        sets("loaded from what was loaded", y, 0, 0, 0, 7, 2, 4);
        due("stored in what was loaded: inside(1, 0)", y.inside(1, 0), 6);
        SiteObjects z = single(above(), make(2, 0), make(2, 0), make(3, 0), make(4, 0), store(2, 0, 3), store(2, 0, 4), load(5, 2, 0));
        sets("two of each", z, 0, 0, 0, 3, 4, 8, 12);
        due("inside(0, 0)", z.inside(0, 0), 12);
        due("inside(1, 0)", z.inside(1, 0), 12);
        SiteObjects w = single(above(), make(2, 0), make(3, 0), store(2, 0, 2), store(3, 0, 3), move(4, 2), move(4, 3), load(5, 4, 0));
        sets("of two, each with its own", w, 0, 0, 0, 1, 2, 3, 3);
    }

    static void ofTheNamesInItAlone() {
        about("for each NAME in b (or a): of no other NAME");
        for (int which = 0; which < 3; which++) {
            // NAMES 0, 1, 2 in VARS 0, 1, 2, each with itself in a FIELD.
            SiteObjects x = single(above(), make(0, 0), make(1, 0), make(2, 0), store(0, 1, 0), store(1, 1, 1), store(2, 1, 2),
                load(4, which, 1), store(which, 3, 4));
            due("LOAD of NAME " + which, x.held(0, 4), 1L << which);
            SiteObjects y = single(above(), row(0, 0, 0), row(1, 0, 0), row(2, 0, 0), lay(0, 0, 0), lay(1, 0, 1), lay(2, 0, 2),
                take(4, which, 1));
            due("TAKE of NAME " + which, y.held(0, 4), 1L << which);
            for (int m = 0; m < 3; m++) {
                due("STORE in NAME " + which + ": inside(" + m + ", 1)", x.inside(m, 1), 1L << m);
                due("STORE in NAME " + which + ": inside(" + m + ", 3)", x.inside(m, 3), m == which ? 1L << m : 0);
                due("LAY in NAME " + which + ": inside(" + m + ", 4)", y.inside(m, 4), 1L << m);
            }
        }
    }

    static void theLastOfSixtyNames() {
        about("60 NAMES: the last of them is as good as the first");
        // METHOD 1 is called ten times and makes six NAMES each time: in NODE 10 ROW 58 and OBJECT 59 are the last.
        Told t = new Told(0).methods(STATIC, STATIC, of(1, 0)).steps(0, times(10, call(0, 1, 5)))
            .steps(1, make(5, 0), make(5, 0), make(5, 0), make(5, 0), row(3, 1, 1), make(2, 1), store(2, 2, 3), lay(3, 0, 2),
                load(0, 2, 2), take(4, 3, 0), ask(1, 2, 0, 3), put(0, 2)).steps(2, give(0), raise(1));
        SiteObjects x = t.work(0, 1);
        due("count(4)", x.count(4), 60);
        for (int node = 1; node <= 10; node++) {
            long first = 1L << 6 * (node - 1);
            sets("NODE " + node, x, node, first << 4, allGiven(), first << 5, first << 4, first << 5, first * 15);
            due("NODE " + node + ": inside(ROW, 4)", x.inside(6 * node - 2, 4), first << 5);
            due("NODE " + node + ": inside(OBJECT, 2)", x.inside(6 * node - 1, 2), first << 4);
            due("NODE " + node + ": leads", x.leads(node, 20, 0), 11);
            due("NODE " + node + ": leads to one", x.leads(node, 20, 1), NONE);
        }
        due("held(11, 0)", x.held(11, 0), allGiven());
        due("held(11, 1)", x.held(11, 1), allGiven() >> 1);
        due("global(0)", x.global(0), allGiven());
        due("node(11, 4)", x.node(11, 4), 10);
    }

    /** NAMES 5, 11, 17 .. 59. */
    static long allGiven() {
        long all = 0;
        for (int m = 5; m < 60; m += 6) {
            all |= 1L << m;
        }
        return all;
    }

    static void placesOfRows() {
        about("TAKE, LAY: for each NAME that is a ROW: what is in the PLACES; LAY: what lies below the ROW's CLASS");
        // Two ROWS, of CLASS 1 and of CLASS 2 below it; OBJECTS of CLASSES 0, 1, 2; PLACES are one set.
        SiteObjects x = single(above(0, 1), row(2, 1, 1), row(2, 2, 1), make(3, 0), make(3, 1), make(3, 2), make(2, 0),
            lay(2, 7, 3), take(4, 2, 3), store(2, 0, 3), take(5, 3, 0));
        due("inside(0, 4)", x.inside(0, 4), 8 | 16);
        due("inside(1, 4)", x.inside(1, 4), 16);
        due("inside(5, 4) of no ROW", x.inside(5, 4), 0);
        due("inside(0, 0) of a ROW", x.inside(0, 0), 0);
        due("inside(5, 0)", x.inside(5, 0), 4 | 8 | 16);
        sets("VARS", x, 0, 0, 0, 1 | 2 | 32, 28, 24, 0);
        SiteObjects y = single(above(0), row(2, 0, 0), row(3, 1, 0), lay(2, 0, 2), lay(2, 0, 3), lay(3, 0, 2), take(4, 2, 0));
        due("ROWS in a ROW of CLASS 0", y.inside(0, 4), 3);
        due("ROWS in a ROW of CLASS 1", y.inside(1, 4), 0);
        sets("taken", y, 0, 0, 0, 1, 2, 3);
    }

    static void castSets() {
        about("CAST: what lies below c");
        SiteObjects x = single(ProgramEdgesTest.ABOVE, make(2, 0), make(2, 1), make(2, 2), make(2, 3), make(2, 4), make(2, 5),
            row(2, 3, 1), cast(0, 2, 0), cast(1, 2, 1), cast(3, 2, 2), cast(4, 2, 4), cast(5, 2, 5));
        sets("six CLASSES and a ROW", x, 0, 127, 0b11110, 127, 0b1100, 0b10000, 0b100000);
    }

    static void askedSets() {
        about("ASK: for each NAME in b with such a METHOD: it is in VAR 0 of the NODE, what is in d in its VAR 1, what that GIVES in a");
        // VAR 2: NAMES of CLASSES 0 (without a METHOD), 1, 1 and 2; VAR 3: NAME 4.
        Told t = new Told(0, 1).methods(STATIC, of(1, 5), of(2, 5)).steps(0, make(2, 0), make(2, 1), make(2, 1), make(2, 2), make(3, 0),
            ask(4, 2, 5, 3)).steps(1, give(0)).steps(2, make(2, 0), give(2), give(1));
        SiteObjects x = t.work(0, 0);
        contexts("one NODE for each METHOD", x, n(0), n(1), n(2));
        sets("the beginning", x, 0, 0, 0, 15, 16, 6 | 16 | 32);
        sets("METHOD 1", x, 1, 6, 16, 0, 0, 0, 0, 6, 0);
        sets("METHOD 2", x, 2, 8, 16, 32, 0, 0, 0, 48, 0);
        t.work(1, 1);
        contexts("one NODE for each NAME", x, n(0), n(1, 101), n(1, 102), n(2, 103));
        for (int node = 1; node < 4; node++) {
            due("held(" + node + ", 0)", x.held(node, 0), 1L << node);
            due("held(" + node + ", 1)", x.held(node, 1), 16);
        }
        SiteObjects y = new Told(0).methods(STATIC, of(1, 0)).steps(0, make(2, 0), ask(3, 2, 0, 2)).steps(1, give(1)).work(0, 0);
        due("no NAME with such a METHOD: count(3)", y.count(3), 1);
        due("no NAME with such a METHOD: held(0, 3)", y.held(0, 3), 0);
    }

    static void calledSets() {
        about("CALL likewise: what is in d in its VAR 1, what it GIVES in a; GIVE: it GIVES what is in a");
        SiteObjects x = new Told().methods(STATIC, STATIC).steps(0, make(2, 0), make(2, 0), make(3, 0), call(4, 1, 2), call(5, 1, 3))
            .steps(1, make(2, 0), give(1), give(2)).work(0, 1);
        sets("the beginning", x, 0, 0, 0, 3, 4, 3 | 8, 4 | 16);
        sets("the first CALL", x, 1, 0, 3, 8, 0, 0, 0, 11, 0);
        sets("the second CALL", x, 2, 0, 4, 16, 0, 0, 0, 20, 0);
        SiteObjects y = new Told().methods(STATIC).steps(0, make(2, 0), call(3, 0, 2), give(1)).work(0, 0);
        sets("called by itself", y, 0, 0, 1, 1, 1, 0, 0, 1, 0);
    }

    static void globalSets() {
        about("PUT, GET: GLOBALS");
        SiteObjects x = single(above(), make(2, 0), make(3, 0), put(0, 2), put(3, 3), put(3, 2), get(4, 3), get(5, 1));
        long[] want = {1, 0, 0, 3};
        for (int g = 0; g < 4; g++) {
            due("global(" + g + ")", x.global(g), want[g]);
        }
        sets("got", x, 0, 0, 0, 1, 2, 3, 0);
    }

    static void raisedSets() {
        about("by GUARDS that cover it, the latest first: what lies below its CLASS is in its a, what is left goes on");
        int[] chain = {0, 1};
        SiteObjects x = single(chain, guard(3, 6, 1), guard(4, 5, 2), make(2, 0), make(2, 1), make(2, 2), clear(5), raise(2));
        sets("two GUARDS", x, 0, 0, 0, 7, 2, 4, 0, 0, 1);
        SiteObjects y = single(chain, guard(4, 6, 2), guard(3, 5, 1), make(2, 0), make(2, 1), make(2, 2), clear(5), raise(2));
        sets("the latest takes all that lies below it", y, 0, 0, 0, 7, 6, 0, 0, 0, 1);
        SiteObjects z = single(chain, guard(3, 6, 0), guard(4, 4, 2), make(2, 0), make(2, 1), make(2, 2), clear(5), raise(2));
        sets("one that does not cover it", z, 0, 0, 0, 7, 7, 0, 0, 0, 0);
        SiteObjects w = single(chain, guard(5, 1, 0), raise(2), make(2, 0));
        sets("a GUARD at the first place", w, 0, 0, 0, 1, 0, 0, 1, 0, 0);
    }

    static void raisedOfWhatIsAskedAndCalled() {
        about("what it RAISES is raised at the STEP; what is left behind all the NODE RAISES");
        Told t = new Told(0).methods(STATIC, STATIC, of(0, 0)).steps(0, make(2, 0), make(2, 1), guard(3, 1, 1), call(4, 1, 2),
            guard(5, 1, 0), ask(4, 2, 0, 2)).steps(1, raise(1)).steps(2, raise(0));
        SiteObjects x = t.work(0, 0);
        sets("the beginning", x, 0, 0, 0, 3, 2, 0, 3, 0, 1);
        sets("what is called", x, 1, 0, 3, 0, 0, 0, 0, 0, 3);
        sets("what is asked", x, 2, 3, 3, 0, 0, 0, 0, 0, 3);
        SiteObjects y = new Told().methods(STATIC, STATIC).steps(0, make(2, 0), call(3, 1, 2)).steps(1, guard(2, 1, 0), raise(1)).work(0, 0);
        sets("taken within", y, 0, 0, 0, 1, 0, 0, 0, 0, 0);
        sets("taken within", y, 1, 0, 1, 1, 0, 0, 0, 0, 0);
    }

    /** The DEPTH by which all is found, and how many NODES and NAMES there are. */
    static void found(String of, Told t, int mode, int depth, int by, int nodes, int names) {
        due(of + ": work(0, " + mode + ", " + depth + ")", t.x.work(0, mode, depth), by);
        due(of + ": count(3)", t.x.count(3), nodes);
        due(of + ": count(4)", t.x.count(4), names);
    }

    static void eightyNodesCalled() {
        about("If there would be more than 80 NODES: by CALLS");
        Told most = new Told().methods(STATIC, STATIC).steps(0, times(79, call(2, 1, 2)));
        found("80 NODES", most, 0, 1, 1, 80, 0);
        found("80 NODES", most, 0, 2, 2, 80, 0);
        found("80 NODES", most, 2, 2, 2, 80, 0);
        contexts("the last of 80", most.x, allCalls(79));
        found("2 NODES", most, 1, 2, 2, 2, 0);
        most.steps(0, call(2, 1, 2));
        found("81 NODES", most, 0, 1, 0, 2, 0);
        found("81 NODES", most, 0, 2, 0, 2, 0);
        found("81 NODES", most, 2, 1, 0, 2, 0);
        found("2 NODES", most, 1, 1, 1, 2, 0);
    }

    static int[][] allCalls(int many) {
        int[][] all = new int[many + 1][];
        all[0] = n(0);
        for (int i = 0; i < many; i++) {
            all[i + 1] = n(1, i);
        }
        return all;
    }

    static void eightyNodesAsked() {
        about("If there would be more than 80 NODES: by ASKS");
        Told byStep = new Told().methods(STATIC, of(0, 0)).steps(0, make(2, 0)).steps(0, times(79, ask(3, 2, 0, 2)));
        found("80 NODES", byStep, 0, 1, 1, 80, 1);
        byStep.steps(0, ask(3, 2, 0, 2));
        found("81 NODES", byStep, 0, 1, 0, 2, 1);
        // 10 NAMES that 7 METHODS are asked of, 9 NAMES that one is asked of.
        Told byName = new Told().methods(STATIC, of(0, 0), of(0, 1), of(0, 2), of(0, 3), of(0, 4), of(0, 5), of(0, 6), of(0, 7))
            .steps(0, times(10, make(2, 0))).steps(0, times(9, make(3, 0)));
        for (int s = 0; s < 7; s++) {
            byName.steps(0, ask(4, 2, s, 5));
        }
        byName.steps(0, ask(4, 3, 7, 5));
        for (int mode = 1; mode < 3; mode++) {
            found("80 NODES", byName, mode, 1, 1, 80, 19);
            found("80 NODES", byName, mode, 2, 2, 80, 19);
        }
        byName.steps(0, make(3, 0));
        for (int mode = 1; mode < 3; mode++) {
            found("81 NODES", byName, mode, 1, 0, 9, 20);
            found("81 NODES", byName, mode, 2, 0, 9, 20);
        }
    }

    static void aDepthThatIsOneLess() {
        about("all is found anew by a DEPTH that is one less");
        // 1 + 8 + 8 * 8 NODES by DEPTH 2, and 7 more.
        Told t = new Told().methods(STATIC, STATIC, STATIC, STATIC).steps(0, times(8, call(2, 1, 2))).steps(1, times(8, call(2, 2, 2)))
            .steps(0, times(7, call(2, 3, 2)));
        found("80 NODES", t, 0, 2, 2, 80, 0);
        t.steps(0, call(2, 3, 2));
        found("81 NODES", t, 0, 2, 1, 25, 0);
        found("81 NODES", t, 2, 2, 1, 25, 0);
        due("node(24, 1)", t.x.node(24, 1), 15);
        due("node(24, 2)", t.x.node(24, 2), NONE);
        // 8 NAMES make 6 each, two METHODS are asked of these: by DEPTH 2 that is 1 + 8 + 2 * 48 NODES.
        Told u = new Told().methods(STATIC, of(0, 0), of(0, 1), of(0, 2)).steps(0, times(8, make(2, 0))).steps(0, ask(3, 2, 0, 2))
            .steps(1, times(6, make(2, 0))).steps(1, ask(3, 2, 1, 2), ask(3, 2, 2, 2));
        found("105 NODES", u, 1, 2, 1, 21, 56);
    }

    static void sixtyNames() {
        about("If there would be more than 60 NAMES");
        Told t = new Told().methods(STATIC, STATIC).steps(0, times(10, call(2, 1, 2))).steps(1, times(3, make(2, 0))).steps(1, times(3, row(3, 0, 1)));
        found("60 NAMES", t, 0, 1, 1, 11, 60);
        due("held(10, 2)", t.x.held(10, 2), 7L << 54);
        due("held(10, 3)", t.x.held(10, 3), 7L << 57);
        due("name(59, 0)", t.x.name(59, 0), 15);
        due("name(59, 2)", t.x.name(59, 2), 1);
        found("60 NAMES", t, 2, 2, 2, 11, 60);
        t.steps(0, row(2, 0, 1));
        found("61 NAMES", t, 0, 1, 0, 2, 7);
        found("61 NAMES", t, 2, 2, 0, 2, 7);
        found("7 NAMES", t, 1, 2, 2, 2, 7);
        // 3 * 4 * 5 by DEPTH 2, 4 * 5 by DEPTH 1.
        Told u = new Told().methods(STATIC, STATIC, STATIC).steps(0, times(3, call(2, 1, 2))).steps(1, times(4, call(2, 2, 2)))
            .steps(2, times(5, make(2, 0)));
        found("60 NAMES", u, 0, 2, 2, 16, 60);
        u.steps(0, make(2, 0));
        found("61 NAMES", u, 0, 2, 1, 8, 21);
    }

    static void bothAtMost() {
        about("more than 80 NODES or 60 NAMES: 80 and 60 are not more");
        Told t = new Told().methods(STATIC, STATIC, STATIC).steps(0, times(20, call(2, 1, 2))).steps(0, times(59, call(2, 2, 2)))
            .steps(1, times(3, make(2, 0)));
        found("80 NODES and 60 NAMES", t, 0, 1, 1, 80, 60);
        gives("a run of them", t.x, 0, NONE);
        due("OBJECTS", t.x.ran(2), 60);
        due("object(59, 1)", t.x.object(59, 1), 59);
        due("object(59, 2)", t.x.object(59, 2), 20);
        due("held(80, 0)", t.x.held(80, 0), BAD);
        due("held(79, 0)", t.x.held(79, 0), 0);
        due("name(60, 0)", t.x.name(60, 0), BAD);
        due("name(59, 3)", t.x.name(59, 3), 20);
    }

    static void depthZeroNeverHasMore() {
        about("(with 0 there never are)");
        Told t = new Told();
        for (int m = 0; m < 12; m++) {
            t.methods(STATIC);
        }
        for (int m = 1; m < 12; m++) {
            t.steps(0, call(2, m, 2)).steps(m, times(5, make(2, 0)));
        }
        for (int mode = 0; mode < 3; mode++) {
            found("12 METHODS, 55 MAKES, MODE " + mode, t, mode, 0, 0, 12, 55);
        }
        t.steps(0, call(2, 1, 2), call(2, 1, 2));
        found("65 NAMES", t, 0, 2, 0, 12, 55);
    }

    static void foundAnew() {
        about("all is found anew: nothing stays of what was found by the DEPTH that was too great");
        // By DEPTH 1 NAMES 0, 1, 2 .. are ROWS and OBJECTS of CLASS 1 by turns; by DEPTH 0 NAME 2 is of CLASS 1, NAME 3 of CLASS 0.
        Told t = new Told(0).methods(STATIC, STATIC, STATIC).steps(0, times(60, call(2, 1, 2))).steps(0, call(2, 2, 2))
            .steps(1, row(2, 1, 1), make(2, 1), store(2, 0, 2), put(0, 2), lay(2, 0, 2))
            .steps(2, make(2, 1), make(3, 0), store(2, 1, 3), store(3, 1, 3), cast(4, 3, 1), cast(5, 2, 1), lay(2, 0, 2), put(1, 5));
        found("too many NAMES", t, 0, 1, 0, 3, 4);
        SiteObjects x = t.x;
        long[][] inside = {{0, 0, 0, 0, 2}, {3, 0, 0, 0, 0}, {0, 8, 0, 0, 0}, {0, 8, 0, 0, 0}};
        for (int m = 0; m < 4; m++) {
            for (int f = 0; f < 5; f++) {
                due("inside(" + m + ", " + f + ")", x.inside(m, f), inside[m][f]);
            }
        }
        sets("METHOD 1", x, 1, 0, 0, 3, 0, 0, 0, 0, 0);
        sets("METHOD 2", x, 2, 0, 0, 4, 8, 0, 4, 0, 0);
        due("global(0)", x.global(0), 3);
        due("global(1)", x.global(1), 4);
    }

    static void foundAnewByAnotherWork() {
        about("All is found: nothing stays of an earlier work()");
        Told t = new Told(0).methods(STATIC, STATIC)
            .steps(0, row(2, 1, 1), make(3, 1), lay(2, 0, 3), put(2, 2), guard(4, 1, 0), raise(3), raise(2), give(2), call(5, 0, 2))
            .steps(1, make(2, 0), row(3, 0, 1), make(4, 0), store(2, 0, 4), store(3, 0, 2), cast(5, 4, 1), cast(5, 2, 1));
        t.work(0, 0);
        due("global(2)", t.x.global(2), 1);
        due("node(0, 4)", t.x.node(0, 4), 1);
        due("work(1, 0, 0)", t.x.work(1, 0, 0), 0);
        sets("METHOD 1", t.x, 0, 0, 0, 1, 2, 4, 0, 0, 0);
        due("global(2)", t.x.global(2), 0);
        due("inside(0, 0)", t.x.inside(0, 0), 4);
        due("inside(0, 4)", t.x.inside(0, 4), 0);
        due("node(0, 0)", t.x.node(0, 0), 1);
        due("node(0, 3)", t.x.node(0, 3), 1);
        due("node(0, 4)", t.x.node(0, 4), 0);
        due("count(4)", t.x.count(4), 3);
    }

    /** Whether each NODE is ONCE, and how many STEPS of NODES lead to it. */
    static void once(String of, SiteObjects x, int[]... want) {
        due(of + ": count(3)", x.count(3), want.length);
        for (int i = 0; i < want.length; i++) {
            due(of + ": node(" + i + ", 3)", x.node(i, 3), want[i][0]);
            due(of + ": node(" + i + ", 4)", x.node(i, 4), want[i][1]);
        }
    }

    static void justOneStepOfOneNode() {
        about("A NODE is ONCE, if just one STEP of one NODE leads to it");
        int[][] methods = {STATIC, STATIC, STATIC, STATIC};
        once("one STEP", new Told().methods(methods).steps(0, call(2, 1, 2)).work(0, 0), n(1, 0), n(1, 1));
        once("two STEPS of one NODE", new Told().methods(methods).steps(0, call(2, 1, 2), call(2, 1, 2)).work(0, 0), n(1, 0), n(0, 2));
        once("STEPS of two NODES", new Told().methods(methods).steps(0, call(2, 1, 2), call(2, 2, 2)).steps(1, call(2, 3, 2))
            .steps(2, call(2, 3, 2)).work(0, 0), n(1, 0), n(1, 1), n(1, 1), n(0, 2));
        Told same = new Told().methods(methods).steps(0, call(2, 1, 2), call(2, 1, 2)).steps(1, call(2, 2, 2));
        once("one STEP of two NODES", same.work(0, 1), n(1, 0), n(1, 1), n(1, 1), n(0, 2));
        once("one STEP of two NODES, each to its own", same.work(0, 2), n(1, 0), n(1, 1), n(1, 1), n(1, 1), n(1, 1));
        Told asked = new Told().methods(STATIC, of(0, 0)).steps(0, make(2, 0), make(2, 0), ask(3, 2, 0, 2));
        once("one STEP, by two NAMES", asked.work(0, 0), n(1, 0), n(1, 1));
        once("one STEP, to two NODES", asked.work(1, 1), n(1, 0), n(1, 1), n(1, 1));
    }

    static void thatNodeIsOnce() {
        about("and that NODE is ONCE");
        Told t = new Told().methods(STATIC, STATIC, STATIC, STATIC).steps(0, call(2, 1, 2), call(2, 1, 2)).steps(1, call(2, 2, 2))
            .steps(2, call(2, 3, 2));
        once("behind one that is not", t.work(0, 0), n(1, 0), n(0, 2), n(0, 1), n(0, 1));
        once("behind ones that are", ladder().work(0, 0), n(1, 0), n(1, 1), n(1, 1), n(1, 1), n(1, 1), n(1, 1), n(1, 1), n(1, 1), n(1, 1));
        Told loop = new Told().methods(STATIC, STATIC, STATIC).steps(0, call(2, 1, 2)).steps(1, call(2, 2, 2)).steps(2, call(2, 1, 2));
        once("a ring", loop.work(0, 0), n(1, 0), n(0, 2), n(0, 1));
    }

    static void onceAtTheBeginning() {
        about("that of the beginning, if none does");
        once("none", new Told().methods(STATIC).work(0, 0), n(1, 0));
        Told itself = new Told().methods(STATIC, STATIC).steps(0, call(2, 0, 2), call(2, 1, 2)).steps(1, make(2, 0));
        once("itself", itself.work(0, 0), n(0, 1), n(0, 1));
        due("a NAME of what it leads to", itself.x.name(0, 4), 0);
        once("itself, as another NODE", itself.work(0, 1), n(1, 0), n(0, 2), n(0, 2));
        Told back = new Told().methods(STATIC, STATIC).steps(0, call(2, 1, 2)).steps(1, call(2, 0, 2));
        once("what it leads to", back.work(0, 0), n(0, 1), n(0, 1));
        once("what it leads to, MODE 1", back.work(1, 2), n(0, 1), n(0, 1));
        Told twice = new Told().methods(STATIC).steps(0, call(2, 0, 2), call(2, 0, 2));
        once("itself twice", twice.work(0, 0), n(0, 2));
    }

    static void aNameIsOne() {
        about("A NAME is ONE, if its NODE is ONCE");
        Told t = new Told().methods(STATIC, STATIC, STATIC).steps(0, make(2, 0), call(2, 1, 2), call(2, 2, 2), call(2, 2, 2))
            .steps(1, make(2, 0), row(3, 0, 1)).steps(2, make(2, 0), row(3, 0, 1));
        SiteObjects x = t.work(0, 0);
        int[] ones = {1, 1, 1, 0, 0};
        due("count(4)", x.count(4), 5);
        for (int m = 0; m < 5; m++) {
            due("name(" + m + ", 4)", x.name(m, 4), ones[m]);
        }
        gives("a run", x, 0, NONE);
        for (int m = 0; m < 5; m++) {
            due("many(" + m + ")", x.many(m), ones[m] == 1 ? 1 : 2);
        }
        t.work(0, 1);
        for (int m = 0; m < 7; m++) {
            due("by DEPTH 1: name(" + m + ", 4)", x.name(m, 4), 1);
        }
    }

    public static void main(String[] args) throws Exception {
        runAll(FoundEdgesTest.class);
    }
}
