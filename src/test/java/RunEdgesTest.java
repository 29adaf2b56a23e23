/** "Terms", part 1: MAYBE, RAISE, GUARD and the FAILURES; each sentence that names an edge has a test of its own. */
public final class RunEdgesTest extends Dues {

    static void lowestBitFirst() {
        about("12 MAYBE: the next bit of the run (the lowest first)");
        SiteObjects x = single(above(), maybe(1), make(2, 0), maybe(1), make(2, 0), maybe(1), make(2, 0));
        for (int bits = 0; bits < 8; bits++) {
            due("run(" + bits + ", 300)", x.run(bits, 300), 0);
            int made = 0;
            for (int i = 0; i < 3; i++) {
                if ((bits >> i & 1) == 0) {
                    due("bits " + bits + ": object(" + made + ", 0)", x.object(made, 0), 2 * i + 1);
                    made++;
                }
            }
            ran("bits " + bits, x, 0, 3 + made, made, made, 0, 1, NONE, NONE, 3);
        }
    }

    /** A METHOD that asks for a bit and makes an OBJECT, if it is 0, called 66 times. */
    static SiteObjects sixtySixBits() {
        return new Told().methods(STATIC, STATIC).steps(0, times(66, call(3, 1, 2))).steps(1, maybe(1), make(2, 0)).work(0, 0);
    }

    static void bitsBehindTheSixtyFourth() {
        about("the next bit of the run (0 behind the 64th)");
        SiteObjects x = sixtySixBits();
        long[] bits = {0, -1, 1, 2, 3, 1L << 62, 1L << 63, ~(1L << 63), ~1L, 1L << 31, 1L << 32};
        int[] made = {66, 2, 65, 65, 64, 65, 65, 3, 3, 65, 65};
        for (int i = 0; i < bits.length; i++) {
            due("run(" + bits[i] + ", 300)", x.run(bits[i], 300), 0);
            due("bits " + bits[i] + ": OBJECTS", x.ran(2), made[i]);
            due("bits " + bits[i] + ": bits that were asked for", x.ran(8), 66);
            due("bits " + bits[i] + ": STEPS", x.ran(1), 132 + made[i]);
        }
    }

    static void stepsArePassedOver() {
        about("1: the b STEPS behind it are passed over");
        for (int span = 1; span <= 30; span++) {
            Told t = new Told().methods(STATIC).steps(0, maybe(span)).steps(0, times(span, make(2, 0))).steps(0, make(3, 0), give(3));
            SiteObjects y = t.work(0, 0);
            gives("1, span " + span, y, 1, 0);
            ran("1, span " + span, y, 0, 3, 1, 1, 0, 1, NONE, 0, 1);
            gives("0, span " + span, y, 0, span);
            ran("0, span " + span, y, 0, 3 + span, 1 + span, 1 + span, 0, 1, NONE, span, 1);
        }
    }

    static void passedOverToTheEnd() {
        about("the b STEPS behind it are passed over: to the end of the METHOD, and beyond");
        for (int span : new int[] {2, 3, 30}) {
            SiteObjects x = single(above(), maybe(span), make(2, 0), give(2));
            gives("span " + span, x, 1, NONE);
            due("span " + span + ": STEPS", x.ran(1), 1);
            SiteObjects y = new Told().methods(STATIC, STATIC).steps(0, make(2, 0), call(2, 1, 2), make(3, 0), give(2))
                .steps(1, maybe(span), make(2, 0), give(2)).work(0, 0);
            gives("span " + span + ", called", y, 1, NONE);
            due("span " + span + ", called: STEPS", y.ran(1), 5);
        }
    }

    static void passedOverMaybesAskForNoBit() {
        about("8 how many bits were asked for: a MAYBE that is passed over asks for none");
        SiteObjects x = single(above(), maybe(1), maybe(1), make(2, 0), maybe(1), make(2, 0));
        due("run(1, 300)", x.run(1, 300), 0);
        ran("bits 1", x, 0, 4, 2, 2, 0, 1, NONE, NONE, 2);
        due("run(3, 300)", x.run(3, 300), 0);
        ran("bits 3", x, 0, 3, 1, 1, 0, 1, NONE, NONE, 2);
        due("run(2, 300)", x.run(2, 300), 0);
        ran("bits 2", x, 0, 4, 1, 1, 0, 1, NONE, NONE, 3);
    }

    static void aGuardDoesNothing() {
        about("16 GUARD: nothing is done");
        SiteObjects x = single(above(), make(2, 0), guard(2, 1, 0), guard(3, 1, 0), clear(4), give(2));
        gives("its a stays", x, 0, 0);
        ran("its a stays", x, 0, 5, 1, 1, 0, 1, NONE, 0, 0);
        due("held(0, 3)", x.held(0, 3), 0);
    }

    static void guardedSteps() {
        about("what is raised at one of the b STEPS behind it");
        for (int span : new int[] {1, 2, 3, 29, 30}) {
            for (int at = 1; at <= span + 1; at++) {
                Told t = new Told().methods(STATIC).steps(0, make(2, 0), guard(3, span, 0)).steps(0, times(at - 1, clear(4)))
                    .steps(0, raise(2)).steps(0, times(span + 1 - at, clear(4))).steps(0, give(3));
                SiteObjects x = t.work(0, 0);
                String of = "span " + span + ", raised at " + at;
                if (at <= span) {
                    gives(of, x, 0, 0);
                    // MAKE, GUARD, up to the RAISE, then the one STEP behind the span and the GIVE.
                    due(of + ": STEPS", x.ran(1), 2 + at + 2);
                    sets(of, x, 0, 0, 0, 1, 1, 0, 0, 1, 0);
                } else {
                    runs(of, x, 0, RAISED, 1 + at, 0);
                    sets(of, x, 0, 0, 0, 1, 0, 0, 0, 0, 1);
                }
            }
        }
    }

    static void stepsAheadAreNotGuarded() {
        about("the b STEPS behind it: none ahead of it");
        SiteObjects x = single(above(), make(2, 0), raise(2), guard(3, 30, 0), clear(4), give(3));
        runs("raised ahead", x, 0, RAISED, 1, 0);
        sets("raised ahead", x, 0, 0, 0, 1, 0, 0, 0, 0, 1);
    }

    static void spansAreOfStepsOfTheMethod() {
        about("the b STEPS behind it: of its METHOD, whatever their numbers");
        Told t = new Told().methods(STATIC, STATIC).steps(0, make(2, 0), guard(3, 2, 0)).steps(1, times(30, clear(4))).steps(0, clear(4))
            .steps(1, times(10, clear(4))).steps(0, raise(2)).steps(1, clear(4)).steps(0, give(3));
        gives("STEPS of another METHOD between", t.work(0, 0), 0, 0);
        Told u = new Told().methods(STATIC, STATIC).steps(0, maybe(2)).steps(1, clear(4)).steps(0, make(2, 0)).steps(1, clear(4))
            .steps(0, make(2, 0)).steps(1, clear(4)).steps(0, make(2, 0), give(2));
        SiteObjects x = u.work(0, 0);
        gives("a MAYBE", x, 1, 0);
        due("the STEP of what was made", x.object(0, 0), 6);
    }

    static void guardsTakeWhatLiesBelow() {
        about("and is of a CLASS below c: a becomes it");
        for (int low = 0; low < 6; low++) {
            for (int high = 0; high < 6; high++) {
                SiteObjects x = single(ProgramEdgesTest.ABOVE, guard(3, 2, high), make(2, low), raise(2), give(3));
                String of = "CLASS " + low + ", GUARD " + high;
                boolean isTaken = ProgramEdgesTest.liesBelow(low, high);
                if (isTaken) {
                    gives(of, x, 0, 0);
                } else {
                    runs(of, x, 0, RAISED, 2, 0);
                }
                sets(of, x, 0, 0, 0, 1, isTaken ? 1 : 0, 0, 0, isTaken ? 1 : 0, isTaken ? 0 : 1);
            }
        }
    }

    static void goesOnBehindTheSpan() {
        about("the METHOD goes on behind these b STEPS");
        SiteObjects x = single(above(), guard(3, 4, 0), make(2, 0), raise(2), make(4, 0), make(4, 0), make(5, 0), give(3));
        gives("behind four", x, 0, 0);
        ran("behind four", x, 0, 5, 2, 3, 0, 1, NONE, 0, 0);
        due("object(1, 0)", x.object(1, 0), 5);
    }

    static void goesOnBehindTheEnd() {
        about("the METHOD goes on behind these b STEPS: where there is none, it ends, and gives NOTHING");
        for (int span : new int[] {3, 4, 30}) {
            SiteObjects x = single(above(), guard(3, span, 0), make(2, 0), raise(2), give(3));
            gives("span " + span, x, 0, NONE);
            due("STEPS", x.ran(1), 3);
            SiteObjects y = new Told().methods(STATIC, STATIC).steps(0, make(2, 0), make(4, 0), call(4, 1, 2), give(4))
                .steps(1, guard(3, span, 0), clear(2), raise(1), give(3)).work(0, 0);
            gives("span " + span + ", called", y, 0, NONE);
        }
    }

    static void theLatestGuardThatFits() {
        about("Of several the latest GUARD that fits");
        int[] one = {0};
        SiteObjects x = single(one, make(2, 1), guard(3, 4, 1), guard(4, 2, 0), guard(5, 1, 1), raise(2), move(3, 4), give(5));
        gives("the third of three", x, 0, 0);
        sets("the third of three", x, 0, 0, 0, 1, 0, 0, 1, 1, 0);
        SiteObjects y = single(one, make(2, 0), guard(3, 4, 0), guard(4, 2, 0), guard(5, 1, 1), raise(2), give(3), give(4));
        runs("the second, as the third does not fit", y, 0, 0, NONE, NONE);
        sets("the second, as the third does not fit", y, 0, 0, 0, 1, 0, 1, 0, 1, 0);
        SiteObjects z = single(one, make(2, 0), guard(3, 4, 0), guard(4, 2, 1), guard(5, 1, 1), raise(2), give(2), give(3));
        gives("the first, as no other one fits", z, 0, 0);
        sets("the first, as no other one fits", z, 0, 0, 0, 1, 1, 0, 0, 1, 0);
        SiteObjects w = single(one, make(2, 0), guard(3, 4, 0), guard(4, 1, 0), clear(5), raise(2), give(2), give(3));
        gives("the first, as the second has ended", w, 0, 0);
        sets("the first, as the second has ended", w, 0, 0, 0, 1, 1, 0, 0, 1, 0);
    }

    static void aGuardThatIsPassedOverGuards() {
        about("A GUARD guards, whether it was passed over or not");
        SiteObjects x = single(above(), make(2, 0), maybe(1), guard(3, 1, 0), raise(2), give(3));
        gives("not passed over", x, 0, 0);
        due("STEPS", x.ran(1), 5);
        gives("passed over", x, 1, 0);
        due("STEPS", x.ran(1), 4);
        SiteObjects y = single(above(), make(2, 0), maybe(2), guard(3, 2, 0), clear(4), raise(2), give(3));
        gives("passed over, with some of its STEPS", y, 1, 0);
        SiteObjects z = single(above(), make(2, 0), guard(3, 2, 0), raise(2), guard(4, 1, 0), raise(3), give(4));
        gives("passed over, as another GUARD took something", z, 0, 0);
        ran("passed over, as another GUARD took something", z, 0, 5, 1, 3, 0, 1, NONE, 0, 0);
        SiteObjects w = single(above(0), make(2, 1), maybe(1), guard(3, 2, 1), guard(4, 1, 1), raise(2), clear(5), give(3));
        gives("passed over, but not the latest", w, 1, NONE);
    }

    static void raisedInWhatItAsksOrCalls() {
        about("by it or in what it asks or calls");
        SiteObjects x = new Told().methods(STATIC, STATIC, of(0, 0), STATIC)
            .steps(0, make(2, 0), make(4, 0), guard(3, 1, 0), call(4, 1, 2), make(5, 0), give(3))
            .steps(1, ask(2, 1, 0, 1), make(2, 0)).steps(2, call(2, 3, 0), make(2, 0)).steps(3, raise(1), make(2, 0)).work(0, 0);
        gives("three METHODS within", x, 0, 0);
        // What would have come behind the RAISE, the CALL and the ASK is not done.
        ran("three METHODS within", x, 0, 9, 3, 8, 0, 4, NONE, 0, 0);
        due("object(2, 0)", x.object(2, 0), 4);
        sets("the beginning", x, 0, 0, 0, 1, 1, 2, 4, 1, 0);
        for (int n = 1; n < 4; n++) {
            due("held(" + n + ", 7)", x.held(n, 7), 1);
        }
    }

    static void whatRaisesGivesNothing() {
        about("What no GUARD of a METHOD takes ends it: a of the STEP that called it stays");
        SiteObjects x = new Told().methods(STATIC, STATIC).steps(0, make(2, 0), make(4, 0), guard(3, 1, 0), call(4, 1, 2), give(4))
            .steps(1, raise(1), give(1)).work(0, 0);
        gives("a of the CALL", x, 0, 1);
        SiteObjects y = new Told().methods(STATIC, of(0, 0)).steps(0, make(2, 0), make(4, 0), guard(3, 1, 0), ask(4, 2, 0, 2), give(4))
            .steps(1, raise(1), give(1)).work(0, 0);
        gives("a of the ASK", y, 0, 1);
    }

    static void raisedAtTheStepThatCalled() {
        about("and is raised at the STEP that asked or called it");
        int[] one = {0};
        // The GUARD of the beginning covers the second CALL alone.
        SiteObjects x = new Told(one).methods(STATIC, STATIC)
            .steps(0, make(2, 0), maybe(1), call(5, 1, 2), guard(3, 1, 0), call(5, 1, 2), call(5, 1, 2), give(3))
            .steps(1, maybe(1), raise(1)).work(0, 0);
        runs("the first CALL", x, 0b00, RAISED, 8, 0);
        runs("the second CALL, the third", x, 0b001, RAISED, 8, 0);
        due("STEPS", x.ran(1), 2 + 4 + 3);
        gives("the second CALL alone", x, 0b101, 0);
        gives("none", x, 0b1110, NONE);
        SiteObjects y = new Told(one).methods(STATIC, STATIC).steps(0, make(2, 0), guard(3, 1, 0), call(5, 1, 2), give(3))
            .steps(1, guard(2, 1, 1), raise(1), give(2)).work(0, 0);
        gives("a GUARD within that does not fit", y, 0, 0);
        SiteObjects z = new Told(one).methods(STATIC, STATIC).steps(0, make(2, 0), guard(3, 1, 0), call(5, 1, 2), give(3))
            .steps(1, guard(2, 1, 0), raise(1), give(2)).work(0, 0);
        gives("a GUARD within that fits", z, 0, NONE);
        sets("a GUARD within that fits", z, 0, 0, 0, 1, 0, 0, 1, 0, 0);
        sets("a GUARD within that fits", z, 1, 0, 1, 1, 0, 0, 0, 1, 0);
    }

    static void raisedAgain() {
        about("what is raised behind the b STEPS is not guarded by that GUARD again");
        SiteObjects x = single(above(), make(2, 0), guard(3, 1, 0), raise(2), raise(3));
        runs("raised again", x, 0, RAISED, 3, 0);
        ran("raised again", x, 7, 4, 1, 2, 0, 1, 3, 0, 0);
        due("held(0, 7)", x.held(0, 7), 1);
    }

    static void guardsTakeNoFailure() {
        about("FAILURES end a run: no GUARD takes them");
        int[] g = guard(5, 30, 0);
        fails("NULL", single(above(), g, load(2, 3, 0), give(2)), NULL, 1);
        fails("NULL, raised", single(above(), g, raise(3), give(2)), NULL, 1);
        fails("KIND", single(above(), g, make(2, 0), take(2, 2, 0), give(2)), KIND, 2);
        fails("PLACE", single(above(), g, row(2, 0, 0), take(2, 2, 0), give(2)), PLACE, 2);
        fails("FITS", single(above(0), g, row(2, 1, 1), lay(2, 0, 2), give(2)), FITS, 2);
        fails("CAST", single(above(0), g, make(2, 0), cast(2, 2, 1), give(2)), CAST, 2);
        fails("NO METHOD", single(above(), g, make(2, 0), ask(2, 2, 0, 2), give(2)), NO_METHOD, 2);
        SiteObjects x = new Told().methods(STATIC, STATIC).steps(0, make(2, 0), g, call(3, 1, 2), give(2)).steps(1, call(3, 1, 2)).work(0, 0);
        fails("DEEP", x, DEEP, 4);
        SiteObjects y = single(above(), g, clear(2), clear(2));
        due("SPENT: run(0, 2)", y.run(0, 2), SPENT);
        due("SPENT: ran(6)", y.ran(6), 2);
    }

    static void nullFailures() {
        about("1 NULL: b of LOAD, TAKE, ASK, a of STORE, LAY is NOTHING, or NOTHING is raised");
        fails("LOAD", single(above(), make(2, 0), load(2, 3, 0)), NULL, 1);
        fails("TAKE", single(above(), make(2, 0), take(2, 3, 0)), NULL, 1);
        fails("ASK", new Told().methods(STATIC, of(0, 0)).steps(0, make(2, 0), ask(2, 3, 0, 2)).work(0, 0), NULL, 1);
        fails("STORE", single(above(), make(2, 0), store(3, 0, 2)), NULL, 1);
        fails("LAY", single(above(), make(2, 0), lay(3, 0, 2)), NULL, 1);
        fails("RAISE", single(above(), make(2, 0), raise(3)), NULL, 1);
    }

    static void whereNothingIsNoFailure() {
        about("1 NULL: of no other STEP and no other number");
        gives("b of STORE", single(above(), make(2, 0), store(2, 0, 3)), 0, NONE);
        gives("b of LAY", single(above(), row(2, 0, 1), lay(2, 0, 3)), 0, NONE);
        gives("a of LOAD, TAKE", single(above(), make(2, 0), load(3, 2, 0), row(2, 0, 1), take(3, 2, 0)), 0, NONE);
        gives("MOVE, CLEAR, CAST, PUT, GET, GIVE", single(above(0), move(2, 3), clear(2), cast(2, 3, 1), put(0, 3), get(2, 1), give(3)), 0, NONE);
        gives("d of ASK", new Told().methods(STATIC, of(0, 0)).steps(0, make(2, 0), ask(3, 2, 0, 4)).work(0, 0), 0, NONE);
        gives("d of CALL", new Told().methods(STATIC, STATIC).steps(0, call(3, 1, 4)).work(0, 0), 0, NONE);
    }

    static void kindFailures() {
        about("2 KIND: LOAD, STORE of a ROW, TAKE, LAY of what is none");
        fails("LOAD of a ROW", single(above(), row(2, 0, 5), load(3, 2, 0)), KIND, 1);
        fails("STORE of a ROW", single(above(), row(2, 0, 5), store(2, 0, 3)), KIND, 1);
        fails("TAKE of an OBJECT", single(above(), make(2, 0), take(3, 2, 0)), KIND, 1);
        fails("LAY of an OBJECT", single(above(), make(2, 0), lay(2, 0, 3)), KIND, 1);
        // What a ROW is stored in, or what is laid in it, may be of either sort.
        gives("b of STORE is a ROW", single(above(), make(2, 0), row(3, 0, 1), store(2, 0, 3), load(4, 2, 0), give(4)), 0, 1);
        gives("b of LAY is a ROW", single(above(), row(2, 0, 1), row(3, 0, 1), lay(2, 0, 3), take(4, 2, 0), give(4)), 0, 1);
    }

    static void placeFailures() {
        about("3 PLACE: the ROW has none such");
        fails("TAKE, just outside", single(above(), row(2, 0, 5), take(3, 2, 5)), PLACE, 1);
        gives("TAKE, just inside", single(above(), row(2, 0, 5), take(3, 2, 4)), 0, NONE);
        fails("LAY, just outside", single(above(), row(2, 0, 5), lay(2, 5, 2)), PLACE, 1);
        gives("LAY, just inside", single(above(), row(2, 0, 5), lay(2, 4, 2)), 0, NONE);
        fails("TAKE of a ROW without PLACES", single(above(), row(2, 0, 0), take(3, 2, 0)), PLACE, 1);
        fails("LAY of NOTHING in a ROW without PLACES", single(above(), row(2, 0, 0), lay(2, 0, 3)), PLACE, 1);
    }

    static void fitsFailures() {
        about("4 FITS: LAY of an OBJECT that does not lie below the ROW's CLASS");
        for (int low = 0; low < 6; low++) {
            for (int high = 0; high < 6; high++) {
                SiteObjects x = single(ProgramEdgesTest.ABOVE, row(2, high, 1), make(3, low), lay(2, 0, 3), take(4, 2, 0), give(4));
                String of = "CLASS " + low + " in a ROW of " + high;
                boolean doesFit = ProgramEdgesTest.liesBelow(low, high);
                if (doesFit) {
                    gives(of, x, 0, 1);
                } else {
                    fails(of, x, FITS, 2);
                }
                due(of + ": object(0, 8)", x.object(0, 8), doesFit ? 1 : NONE);
                due(of + ": inside(0, 4)", x.inside(0, 4), doesFit ? 2 : 0);
            }
        }
        SiteObjects y = single(above(0), row(2, 1, 1), make(3, 1), lay(2, 0, 3), make(4, 0), lay(2, 0, 4));
        fails("laid behind one that fits", y, FITS, 4);
        due("the PLACE holds what it held", y.object(0, 8), 1);
    }

    static void fitsIsAskedLast() {
        about("4 FITS (asked last): behind NULL, KIND and PLACE, which are asked in this order");
        int[] one = {0};
        fails("NOTHING, PLACE 7, does not fit", single(one, make(3, 0), lay(2, 7, 3)), NULL, 1);
        fails("no ROW, PLACE 7, does not fit", single(one, make(2, 1), make(3, 0), lay(2, 7, 3)), KIND, 2);
        fails("a ROW, no PLACE, does not fit", single(one, row(2, 1, 2), make(3, 0), lay(2, 2, 3)), PLACE, 2);
        fails("a ROW without PLACES, does not fit", single(one, row(2, 1, 0), make(3, 0), lay(2, 0, 3)), PLACE, 2);
        fails("a PLACE, does not fit", single(one, row(2, 1, 2), make(3, 0), lay(2, 1, 3)), FITS, 2);
        fails("TAKE: NOTHING, PLACE 7", single(one, take(3, 2, 7)), NULL, 0);
        fails("TAKE: no ROW, PLACE 7", single(one, make(2, 1), take(3, 2, 7)), KIND, 1);
    }

    static void castFailures() {
        about("5 CAST: the OBJECT does not lie below it (NOTHING does)");
        fails("above", single(above(0), make(2, 0), cast(3, 2, 1)), CAST, 1);
        fails("beside", single(above(0, 0), make(2, 1), cast(3, 2, 2)), CAST, 1);
        gives("itself", single(above(0), make(2, 1), cast(3, 2, 1), give(3)), 0, 0);
        gives("below", single(above(0), make(2, 1), cast(3, 2, 0), give(3)), 0, 0);
        gives("NOTHING", single(above(0), make(3, 1), cast(3, 2, 1), give(3)), 0, NONE);
    }

    static void noMethodFailures() {
        about("6 NO METHOD: asked behind NULL and ahead of DEEP");
        fails("without one", single(above(), make(2, 0), ask(3, 2, 0, 2)), NO_METHOD, 1);
        fails("NOTHING, and without one", single(above(), make(3, 0), ask(3, 2, 0, 3)), NULL, 1);
        // Each METHOD calls itself till a bit is 1: then it asks.
        for (int deep : new int[] {1, 25}) {
            long bits = 1L << deep - 1;
            SiteObjects x = new Told().methods(STATIC).steps(0, maybe(2), call(2, 0, 2), give(2), make(2, 0), ask(3, 2, 0, 2)).work(0, 0);
            runs("without one, " + deep + " deep", x, bits, NO_METHOD, 4, NONE);
            due("METHODS within one another", x.ran(5), deep);
            SiteObjects y = new Told().methods(STATIC).steps(0, maybe(2), call(2, 0, 2), give(2), make(2, 0), ask(3, 4, 0, 2)).work(0, 0);
            runs("NOTHING, " + deep + " deep", y, bits, NULL, 4, NONE);
        }
    }

    static void raisedFailures() {
        about("7 RAISED: what no METHOD takes");
        SiteObjects x = new Told(0).methods(STATIC, STATIC, of(0, 0)).steps(0, make(5, 0), make(2, 1), guard(3, 1, 0), clear(3), call(4, 1, 2))
            .steps(1, guard(3, 1, 0), clear(3), ask(4, 1, 0, 1), give(1)).steps(2, raise(0), give(0)).work(0, 0);
        runs("through three METHODS", x, 0, RAISED, 9, 1);
        ran("through three METHODS", x, 7, 9, 2, 5, 0, 3, 9, 1, 0);
        for (int n = 0; n < 3; n++) {
            due("held(" + n + ", 7)", x.held(n, 7), 2);
        }
        runs("at the beginning", single(above(), make(2, 0), raise(2)), 0, RAISED, 1, 0);
    }

    /** METHOD 0 calls itself till a bit is 1. */
    static SiteObjects callsItself() {
        return new Told().methods(STATIC).steps(0, maybe(1), call(2, 0, 2)).work(0, 0);
    }

    static void deepFailures() {
        about("8 DEEP: the 26th METHOD within one another");
        SiteObjects x = callsItself();
        for (int deep = 1; deep <= 25; deep++) {
            runs("CALL, " + deep + " deep", x, 1L << deep - 1, 0, NONE, NONE);
            ran("CALL, " + deep + " deep", x, 0, 2 * deep - 1, 0, 0, 0, deep, NONE, NONE, deep);
        }
        runs("CALL, 26 deep", x, 1L << 25, DEEP, 1, NONE);
        ran("CALL, 26 deep", x, 8, 50, 0, 0, 0, 25, 1, NONE, 25);
        SiteObjects y = new Told().methods(STATIC, of(0, 0)).steps(0, make(2, 0), ask(3, 2, 0, 2)).steps(1, maybe(1), ask(2, 0, 0, 1)).work(0, 0);
        for (int deep = 2; deep <= 25; deep++) {
            runs("ASK, " + deep + " deep", y, 1L << deep - 2, 0, NONE, NONE);
            due("METHODS within one another", y.ran(5), deep);
        }
        runs("ASK, 26 deep", y, 1L << 24, DEEP, 3, NONE);
        due("METHODS within one another", y.ran(5), 25);
        due("STEPS", y.ran(1), 2 + 48);
    }

    static void deepIsWithinOneAnother() {
        about("8 DEEP: within one another, not one behind the other");
        SiteObjects x = new Told().methods(STATIC, STATIC).steps(0, times(80, call(2, 1, 2))).steps(1, clear(2)).work(0, 0);
        gives("80 METHODS one behind the other", x, 0, NONE);
        due("METHODS within one another", x.ran(5), 2);
        SiteObjects y = new Told().methods(STATIC, STATIC).steps(0, call(2, 1, 2), call(2, 1, 2), call(2, 1, 2))
            .steps(1, maybe(1), call(2, 1, 2)).work(0, 0);
        runs("25 deep, three times", y, 1L << 23 | 1L << 47, DEEP, 4, NONE);
        due("bits that were asked for", y.ran(8), 72);
        due("METHODS within one another", y.ran(5), 25);
        SiteObjects z = new Told().methods(STATIC, STATIC).steps(0, make(2, 0), guard(3, 1, 0), call(4, 1, 2), call(4, 1, 2), give(3))
            .steps(1, maybe(2), call(2, 1, 1), give(2), maybe(1), raise(1)).work(0, 0);
        // 25 deep and raised, then 25 deep and not raised.
        gives("25 deep behind what was raised 25 deep", z, 1L << 23 | 0b11L << 48, 0);
        due("METHODS within one another", z.ran(5), 25);
        due("bits that were asked for", z.ran(8), 50);
    }

    static void spentFailures() {
        about("9 SPENT: another STEP is begun than there are");
        SiteObjects x = single(above(), make(2, 0), move(3, 2), give(3));
        due("just as many", x.run(0, 3), 0);
        ran("just as many", x, 0, 3, 1, 2, 0, 1, NONE, 0, 0);
        due("one fewer", x.run(0, 2), SPENT);
        ran("one fewer", x, 9, 2, 1, 2, 0, 1, 2, NONE, 0);
        due("one alone", x.run(0, 1), SPENT);
        ran("one alone", x, 9, 1, 1, 1, 0, 1, 1, NONE, 0);
        due("one more", x.run(0, 4), 0);
        due("none is begun", single(above()).run(0, 1), 0);
        due("one of one", single(above(), clear(2)).run(0, 1), 0);
        due("one of two", single(above(), clear(2), clear(2)).run(0, 1), SPENT);
    }

    static void spentIsAskedFirst() {
        about("9 SPENT: the STEP is not begun, so that it does not fail by itself, nor asks for a bit");
        SiteObjects x = single(above(), clear(2), load(2, 3, 0));
        due("ahead of a NULL", x.run(0, 1), SPENT);
        ran("ahead of a NULL", x, 9, 1, 0, 0, 0, 1, 1, NONE, 0);
        due("the NULL", x.run(0, 2), NULL);
        ran("the NULL", x, 1, 2, 0, 0, 0, 1, 1, NONE, 0);
        SiteObjects y = single(above(), clear(2), maybe(1), clear(2));
        due("ahead of a MAYBE", y.run(1, 1), SPENT);
        ran("ahead of a MAYBE", y, 9, 1, 0, 0, 0, 1, 1, NONE, 0);
        due("behind the MAYBE", y.run(1, 2), 0);
        ran("behind the MAYBE", y, 0, 2, 0, 0, 0, 1, NONE, NONE, 1);
        SiteObjects z = callsItself();
        due("ahead of DEEP", z.run(0, 49), SPENT);
        ran("ahead of DEEP", z, 9, 49, 0, 0, 0, 25, 1, NONE, 25);
        due("DEEP", z.run(0, 50), DEEP);
        SiteObjects w = single(above(), make(2, 0), raise(2));
        due("ahead of RAISED", w.run(0, 1), SPENT);
        ran("ahead of RAISED", w, 9, 1, 1, 1, 0, 1, 1, NONE, 0);
        due("RAISED", w.run(0, 2), RAISED);
    }

    static void spentWithinAndBehindMethods() {
        about("9 SPENT: STEPS of all METHODS count; that a METHOD ends is no STEP");
        SiteObjects x = new Told().methods(STATIC, STATIC).steps(0, call(2, 1, 2), clear(2)).steps(1, clear(2)).work(0, 0);
        due("ahead of the first STEP within", x.run(0, 1), SPENT);
        due("ran(6)", x.ran(6), 2);
        due("ran(5)", x.ran(5), 2);
        due("behind the last STEP within", x.run(0, 2), SPENT);
        due("ran(6)", x.ran(6), 1);
        due("all", x.run(0, 3), 0);
        SiteObjects y = new Told().methods(STATIC, STATIC).steps(0, call(2, 1, 2)).work(0, 0);
        due("a METHOD without STEPS", y.run(0, 1), 0);
        SiteObjects z = new Told().methods(STATIC, STATIC).steps(0, call(2, 1, 2)).steps(1, clear(2)).work(0, 0);
        due("both METHODS end behind the last STEP", z.run(0, 2), 0);
        due("ran(6)", z.ran(6), NONE);
    }

    static void threeHundredSteps() {
        about("so many STEPS (1 .. 300)");
        Told t = new Told().methods(STATIC, STATIC).steps(0, times(6, call(2, 1, 2))).steps(1, times(49, make(2, 0)));
        SiteObjects x = t.work(0, 0);
        due("300 of 300", x.run(0, 300), 0);
        due("STEPS", x.ran(1), 300);
        due("OBJECTS", x.ran(2), 294);
        due("the last OBJECT", x.object(293, 0), 54);
        due("none behind it", x.object(294, 0), BAD);
        due("299 of 300", x.run(0, 299), SPENT);
        due("ran(6)", x.ran(6), 54);
        t.steps(0, clear(2)).work(0, 0);
        due("300 of 301", x.run(0, 300), SPENT);
        due("ran(1)", x.ran(1), 300);
        due("ran(6)", x.ran(6), 55);
    }

    public static void main(String[] args) throws Exception {
        runAll(RunEdgesTest.class);
    }
}
