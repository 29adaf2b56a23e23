/** "Terms", part 1, but for MAYBE, GUARD and FAILURES: each sentence that names an edge has a test of its own. */
public final class ProgramEdgesTest extends Dues {
    /** 1 below 0, 2 below 1, 3 below 2, 4 below 1, 5 below 0; for each CLASS those that it lies below, as bits. */
    static final int[] ABOVE = {0, 1, 2, 1, 0};
    static final int[] BELOW = {0b1, 0b11, 0b111, 0b1111, 0b10011, 0b100001};

    static boolean liesBelow(int low, int high) {
        return (BELOW[low] >> high & 1) != 0;
    }

    static void tenClassesAtMost() {
        about("CLASSES 0 .. (10 at most)");
        SiteObjects x = new SiteObjects();
        for (int c = 1; c <= 9; c++) {
            due("cls(" + c + "), that there is not yet", x.cls(c), BAD);
            due("cls(" + (c - 1) + ")", x.cls(c - 1), c);
        }
        due("an 11th CLASS below 0", x.cls(0), FULL);
        due("an 11th CLASS below 9", x.cls(9), FULL);
        due("an 11th CLASS below none", x.cls(10), BAD);
        due("count(0)", x.count(0), 10);
        x.method(-1, 0);
        due("MAKE of CLASS 9", x.step(0, 0, 2, 9, 0, 0), 0);
        due("MAKE of CLASS 10", x.step(0, 0, 2, 10, 0, 0), BAD);
    }

    static void classZeroIsThere() {
        about("class 0 is there");
        due("count(0)", new SiteObjects().count(0), 1);
        due("cls(0)", new SiteObjects().cls(0), 1);
        due("cls(1)", new SiteObjects().cls(1), BAD);
        due("method(0, 0)", new SiteObjects().method(0, 0), 0);
        due("method(1, 0)", new SiteObjects().method(1, 0), BAD);
        gives("an OBJECT of CLASS 0", single(above(), make(2, 0), cast(3, 2, 0), give(3)), 0, 0);
    }

    static void belowAndBelowItself() {
        about("lies BELOW the one that it is told below, and what that lies below; also below itself");
        for (int low = 0; low < 6; low++) {
            for (int high = 0; high < 6; high++) {
                SiteObjects x = single(ABOVE, make(2, low), cast(3, 2, high), give(3));
                String of = "CLASS " + low + " as " + high;
                due(of + ": held", x.held(0, 3), liesBelow(low, high) ? 1 : 0);
                if (liesBelow(low, high)) {
                    gives(of, x, 0, 0);
                } else {
                    fails(of, x, CAST, 1);
                }
            }
        }
        int[] chain = {0, 1, 2, 3, 4, 5, 6, 7, 8};
        gives("CLASS 9 as 0", single(chain, make(2, 9), cast(3, 2, 0), give(3)), 0, 0);
        fails("CLASS 8 as 9", single(chain, make(2, 8), cast(3, 2, 9), give(3)), CAST, 1);
    }

    static void twelveMethodsAtMost() {
        about("METHODS (12 at most)");
        SiteObjects x = new SiteObjects();
        for (int m = 0; m < 12; m++) {
            due("step of METHOD " + m + ", that there is not yet", x.step(m, 3, 0, 0, 0, 0), BAD);
            due("METHOD " + m, m % 2 == 0 ? x.method(-1, 0) : x.method(0, m / 2), m);
        }
        due("a 13th METHOD, STATIC", x.method(-1, 0), FULL);
        due("a 13th METHOD, of a CLASS", x.method(0, 7), FULL);
        due("a 13th METHOD, of no CLASS", x.method(1, 7), BAD);
        due("a 13th METHOD, as there is one", x.method(0, 0), BAD);
        due("count(1)", x.count(1), 12);
        due("a STEP of METHOD 11", x.step(11, 3, 0, 0, 0, 0), 0);
        due("a STEP of METHOD 12", x.step(12, 3, 0, 0, 0, 0), BAD);
        due("work from METHOD 10", x.work(10, 0, 0), 0);
        due("work from METHOD 12", x.work(12, 0, 0), BAD);
        SiteObjects y = new SiteObjects();
        for (int m = 0; m < 12; m++) {
            due("STATIC METHOD " + m, y.method(-1, 0), m);
        }
        due("a 13th STATIC METHOD", y.method(-1, 0), FULL);
    }

    static void selectorsZeroToSeven() {
        about("with a SELECTOR 0 .. 7");
        Told t = new Told().methods(STATIC, of(0, 0), of(0, 1), of(0, 2), of(0, 3), of(0, 4), of(0, 5), of(0, 6), of(0, 7));
        t.steps(0, make(2, 0));
        for (int s = 0; s < 8; s++) {
            t.steps(0, ask(3, 2, s, 2));
        }
        SiteObjects x = t.work(0, 0);
        for (int s = 0; s < 8; s++) {
            due("METHOD of SELECTOR " + s, x.node(x.leads(0, 1 + s, 0), 0), 1 + s);
        }
        for (int s : new int[] {-1, 8, MIN, MAX}) {
            due("method(0, " + s + ")", x.method(0, s), BAD);
            due("ASK with SELECTOR " + s, x.step(0, 9, 3, 2, s, 2), BAD);
        }
    }

    static void oneOfAClassAndSelector() {
        about("one of a CLASS and SELECTOR");
        SiteObjects x = new SiteObjects();
        x.cls(0);
        due("the first", x.method(0, 3), 0);
        due("the first again", x.method(0, 3), BAD);
        due("of a CLASS below", x.method(1, 3), 1);
        due("of that again", x.method(1, 3), BAD);
        due("with another SELECTOR", x.method(0, 4), 2);
        due("with that again", x.method(0, 4), BAD);
        due("count(1)", x.count(1), 3);
    }

    static void staticOnesHaveNoSelector() {
        about("or STATIC");
        SiteObjects x = new SiteObjects();
        due("STATIC", x.method(-1, 3), 0);
        due("STATIC with the same SELECTOR", x.method(-1, 3), 1);
        due("one of a CLASS with that SELECTOR", x.method(0, 3), 2);
        due("STATIC behind that", x.method(-1, 3), 3);
        due("STATIC, SELECTOR 8", x.method(-1, 8), 4);
        due("STATIC, SELECTOR MIN", x.method(-1, MIN), 5);
        // No ASK comes to a STATIC METHOD, whatever SELECTOR it was told with.
        SiteObjects y = new Told().methods(new int[] {-1, 0}).steps(0, make(2, 0), ask(3, 2, 0, 2)).work(0, 0);
        due("leads of an ASK to a STATIC METHOD", y.leads(0, 1, 0), NONE);
        fails("an ASK of a STATIC METHOD", y, NO_METHOD, 1);
    }

    static void varsZeroToFive() {
        about("VARS 0 .. 5, which hold an OBJECT or NOTHING");
        for (int v = 0; v < 6; v++) {
            SiteObjects x = single(above(), make(0, 0), make(1, 0), make(2, 0), make(3, 0), make(4, 0), make(5, 0), give(v));
            sets("six VARS", x, 0, 1, 2, 4, 8, 16, 32, 1L << v, 0);
            gives("VAR " + v, x, 0, v);
        }
    }

    static void receiverAndArgument() {
        about("VAR 0 the RECEIVER, VAR 1 the ARGUMENT, others NOTHING at first");
        for (int v = 0; v < 6; v++) {
            SiteObjects x = new Told().methods(STATIC, of(0, 0))
                .steps(0, make(2, 0), make(3, 0), make(4, 0), make(5, 0), ask(4, 2, 0, 3), give(4)).steps(1, give(v)).work(0, 0);
            gives("VAR " + v + " of what is asked", x, 0, v < 2 ? v : NONE);
            sets("what is asked", x, 1, 1, 2, 0, 0, 0, 0, v < 2 ? 1 << v : 0, 0);
        }
    }

    static void staticReceiverIsNothing() {
        about("the RECEIVER (STATIC: NOTHING)");
        for (int v = 0; v < 6; v++) {
            SiteObjects x = new Told().methods(STATIC, of(0, 0), STATIC)
                .steps(0, make(2, 0), make(3, 0), ask(4, 2, 0, 3), give(4))
                .steps(1, call(2, 2, 1), give(2)).steps(2, give(v)).work(0, 0);
            gives("VAR " + v + " of what is called", x, 0, v == 1 ? 1 : NONE);
            sets("what is called", x, 2, 0, 2, 0, 0, 0, 0, v == 1 ? 2 : 0, 0);
        }
    }

    static void theBeginningHoldsNothing() {
        about("the beginning: RECEIVER and ARGUMENT are NOTHING, others NOTHING at first, in each run");
        for (int v = 0; v < 6; v++) {
            SiteObjects x = single(above(), maybe(1), make(v, 0), give(v));
            gives("VAR " + v + ", filled", x, 0, 0);
            gives("VAR " + v + ", in the next run", x, 1, NONE);
            due("held of a VAR that nothing fills", single(above(), give(v)).held(0, v), 0);
        }
    }

    static void varsAreNothingEachTime() {
        about("others NOTHING at first: each time that the METHOD begins");
        for (int v = 0; v < 6; v++) {
            SiteObjects x = new Told().methods(STATIC, STATIC).steps(0, make(2, 0), call(3, 1, 2), call(4, 1, 2), give(4))
                .steps(1, maybe(6), make(0, 0), make(1, 0), make(2, 0), make(3, 0), make(4, 0), make(5, 0), give(v)).work(0, 0);
            gives("VAR " + v + " the second time", x, 2, v == 1 ? 0 : NONE);
        }
    }

    static void behindTheLastStepItGivesNothing() {
        about("behind the last one it ends, and gives NOTHING");
        SiteObjects x = new Told().methods(STATIC, STATIC).steps(0, make(2, 0), move(3, 2), call(3, 1, 2), give(3))
            .steps(1, move(2, 1)).work(0, 0);
        gives("a METHOD without a GIVE", x, 0, NONE);
        due("ran(1)", x.ran(1), 5);
        SiteObjects y = new Told().methods(STATIC, of(0, 0)).steps(0, make(2, 0), move(3, 2), ask(3, 2, 0, 2), give(3)).work(0, 0);
        gives("a METHOD without a STEP", y, 0, NONE);
        due("ran(1)", y.ran(1), 4);
        SiteObjects z = single(above());
        gives("a beginning without a STEP", z, 0, NONE);
        due("ran(1)", z.ran(1), 0);
        gives("a beginning without a GIVE", single(above(), make(2, 0)), 0, NONE);
    }

    static void numberedAsToldAndBehindTheOthers() {
        about("STEPS, numbered as told, each behind the others of its METHOD");
        SiteObjects x = new Told().methods(STATIC, STATIC).steps(0, make(2, 0)).steps(1, make(3, 0)).steps(0, call(3, 1, 2))
            .steps(1, give(3)).steps(0, give(3)).work(0, 0);
        gives("STEPS told by turns", x, 0, 1);
        due("the STEP of OBJECT 0", x.object(0, 0), 0);
        due("the STEP of OBJECT 1", x.object(1, 0), 1);
        due("ran(1)", x.ran(1), 5);
        due("name(1, 0)", x.name(1, 0), 1);
        due("leads(0, 2, 0)", x.leads(0, 2, 0), 1);
    }

    static void ninetyStepsAtMost() {
        about("STEPS (90 at most in all)");
        Told t = new Told().methods(STATIC, STATIC, of(0, 0)).steps(0, make(2, 0));
        for (int s = 1; s < 89; s++) {
            due("a wrong STEP uses no room", t.x.step(0, 3, 6, 0, 0, 0), BAD);
            t.steps(s % 3, clear(3));
        }
        t.steps(0, give(2));
        due("count(2)", t.x.count(2), 90);
        for (int m = 0; m < 3; m++) {
            for (int[] s : new int[][] {make(0, 0), row(0, 0, 0), move(0, 0), clear(0), load(0, 0, 0), store(0, 0, 0),
                take(0, 0, 0), lay(0, 0, 0), cast(0, 0, 0), ask(0, 0, 0, 0), call(0, 0, 0), give(0), maybe(1), put(0, 0),
                get(0, 0), raise(0), guard(0, 1, 0)}) {
                due("a 91st STEP, KIND " + s[0], t.x.step(m, s[0], s[1], s[2], s[3], s[4]), FULL);
            }
        }
        due("a wrong 91st STEP", t.x.step(0, 3, 6, 0, 0, 0), BAD);
        due("a 91st STEP of no METHOD", t.x.step(3, 3, 0, 0, 0, 0), BAD);
        due("a 91st STEP of no KIND", t.x.step(0, 17, 0, 0, 0, 0), BAD);
        gives("the 90th is done", t.work(0, 0), 0, 0);
    }

    static void ninetyStepsOfOneMethod() {
        about("STEPS (90 at most in all): all of one METHOD");
        SiteObjects x = new Told().methods(STATIC, STATIC).steps(0, make(2, 0)).steps(0, times(88, clear(3))).steps(0, give(2)).work(0, 0);
        gives("90 STEPS", x, 0, 0);
        due("ran(1)", x.ran(1), 90);
        due("a 91st", x.step(0, 3, 0, 0, 0, 0), FULL);
        due("a 91st, of another METHOD", x.step(1, 3, 0, 0, 0, 0), FULL);
    }

    static void fiftyFiveMakesAndRows() {
        about("Of both 55 at most in all");
        for (int rows = 0; rows <= 55; rows += rows == 27 ? 28 : 27) {
            Told t = new Told().methods(STATIC, of(0, 0), STATIC);
            for (int s = 0; s < 55; s++) {
                due("a wrong MAKE uses no room", t.x.step(0, 0, 0, 1, 0, 0), BAD);
                t.steps(s % 3, s < rows ? row(2, 0, 5) : make(2, 0));
            }
            for (int m = 0; m < 3; m++) {
                due("a 56th, a MAKE, behind " + rows + " ROWS", t.x.step(m, 0, 2, 0, 0, 0), FULL);
                due("a 56th, a ROW, behind " + rows + " ROWS", t.x.step(m, 1, 2, 0, 0, 0), FULL);
            }
            due("a wrong 56th MAKE", t.x.step(0, 0, 6, 0, 0, 0), BAD);
            due("a wrong 56th ROW", t.x.step(0, 1, 0, 0, 6, 0), BAD);
            due("count(2)", t.x.count(2), 55);
            t.steps(0, move(2, 2), clear(0), load(0, 0, 0), store(0, 0, 0), take(0, 0, 0), lay(0, 0, 0), cast(0, 0, 0),
                ask(0, 0, 0, 0), call(0, 0, 0), give(0), maybe(1), put(0, 0), get(0, 0), raise(0), guard(0, 1, 0));
        }
    }

    static void fieldsAreNothingAtFirst() {
        about("a new OBJECT of CLASS b, with FIELDS 0 .. 3, NOTHING in them");
        for (int f = 0; f < 4; f++) {
            SiteObjects x = single(above(), make(2, 0), maybe(1), store(2, f, 2), load(3, 2, f), give(3));
            gives("FIELD " + f + ", filled", x, 0, 0);
            gives("FIELD " + f + ", in the next run", x, 1, NONE);
            for (int g = 0; g < 4; g++) {
                due("object(0, " + (4 + g) + ")", x.object(0, 4 + g), NONE);
            }
            SiteObjects y = single(above(), make(2, 0), store(2, f, 2), make(2, 0), load(3, 2, f), give(3));
            gives("FIELD " + f + " of the next OBJECT", y, 0, NONE);
            due("FIELD " + f + " of the first OBJECT", y.object(0, 4 + f), 0);
        }
    }

    static void fourFieldsEachItsOwn() {
        about("FIELDS 0 .. 3: each holds its own");
        for (int f = 0; f < 4; f++) {
            SiteObjects x = single(above(), make(0, 0), make(1, 0), make(2, 0), make(3, 0), make(4, 0), store(0, 0, 1),
                store(0, 1, 2), store(0, 2, 3), store(0, 3, 4), load(5, 0, f), give(5));
            gives("FIELD " + f, x, 0, 1 + f);
            for (int g = 0; g < 4; g++) {
                due("object(0, " + (4 + g) + ")", x.object(0, 4 + g), 1 + g);
                due("inside(0, " + g + ")", x.inside(0, g), 2L << g);
                due("object(1, " + (4 + g) + ")", x.object(1, 4 + g), NONE);
            }
        }
    }

    static void zeroToFivePlaces() {
        about("a new ROW of CLASS b with c PLACES (0 .. 5)");
        for (int c = 0; c <= 5; c++) {
            for (int p = 0; p < 8; p++) {
                SiteObjects taken = single(above(), row(2, 0, c), take(3, 2, p), give(3));
                SiteObjects laid = single(above(), row(2, 0, c), lay(2, p, 2), take(3, 2, p), give(3));
                String of = "PLACE " + p + " of " + c;
                if (p < c) {
                    gives(of + ", taken", taken, 0, NONE);
                    gives(of + ", laid", laid, 0, 0);
                } else {
                    fails(of + ", taken", taken, PLACE, 1);
                    fails(of + ", laid", laid, PLACE, 1);
                }
                for (int w = 0; w < 5; w++) {
                    due(of + ": object(0, " + (8 + w) + ")", laid.object(0, 8 + w), w == p && p < c ? 0 : NONE);
                }
            }
        }
        SiteObjects x = new Told().methods(STATIC).x;
        for (int c : new int[] {-1, 6, MIN, MAX}) {
            due("a ROW of " + c + " PLACES", x.step(0, 1, 0, 0, c, 0), BAD);
        }
    }

    static void placesAreNothingAtFirst() {
        about("c PLACES, NOTHING in them");
        for (int p = 0; p < 5; p++) {
            SiteObjects x = single(above(), row(2, 0, 5), maybe(1), lay(2, p, 2), take(3, 2, p), give(3));
            gives("PLACE " + p + ", filled", x, 0, 0);
            gives("PLACE " + p + ", in the next run", x, 1, NONE);
            SiteObjects y = single(above(), row(2, 0, 5), lay(2, p, 2), row(2, 0, 5), take(3, 2, p), give(3));
            gives("PLACE " + p + " of the next ROW", y, 0, NONE);
            due("PLACE " + p + " of the first ROW", y.object(0, 8 + p), 0);
        }
        SiteObjects z = single(above(), row(0, 0, 5), make(1, 0), make(2, 0), make(3, 0), make(4, 0), make(5, 0), lay(0, 0, 1),
            lay(0, 1, 2), lay(0, 2, 3), lay(0, 3, 4), lay(0, 4, 5), take(1, 0, 2), give(1));
        gives("each PLACE holds its own", z, 0, 3);
        for (int p = 0; p < 5; p++) {
            due("object(0, " + (8 + p) + ")", z.object(0, 8 + p), 1 + p);
        }
    }

    static void aRowIsAnObjectOfClassZero() {
        about("a ROW is an OBJECT, of CLASS 0");
        int[] one = {0};
        gives("a ROW of CLASS 1 as CLASS 0", single(one, row(2, 1, 1), cast(3, 2, 0), give(3)), 0, 0);
        fails("a ROW of CLASS 1 as CLASS 1", single(one, row(2, 1, 1), cast(3, 2, 1)), CAST, 1);
        due("held of that", single(one, row(2, 1, 1), cast(3, 2, 1)).held(0, 3), 0);
        gives("laid in a ROW of CLASS 0", single(one, row(2, 1, 1), row(3, 0, 1), lay(3, 0, 2), take(4, 3, 0), give(4)), 0, 0);
        fails("laid in a ROW of CLASS 1", single(one, row(2, 1, 1), row(3, 1, 1), lay(3, 0, 2)), FITS, 2);
        SiteObjects x = new Told(0).methods(STATIC, of(0, 0), of(1, 0)).steps(0, row(2, 1, 1), ask(3, 2, 0, 2), give(3))
            .steps(1, give(0)).work(0, 0);
        gives("asked", x, 0, 0);
        due("the METHOD that is asked", x.node(1, 0), 1);
        due("object(0, 3)", x.object(0, 3), 0);
        due("name(0, 1)", x.name(0, 1), 1);
        fails("asked for one of CLASS 1", new Told(0).methods(STATIC, of(1, 0)).steps(0, row(2, 1, 1), ask(3, 2, 0, 2)).work(0, 0),
            NO_METHOD, 1);
        gives("raised, a GUARD of CLASS 0", single(one, row(2, 1, 1), guard(3, 1, 0), raise(2), give(3)), 0, 0);
        runs("raised, a GUARD of CLASS 1", single(one, row(2, 1, 1), guard(3, 1, 1), raise(2), give(3)), 0, RAISED, 2, 0);
    }

    static void aRowHasNoFields() {
        about("a ROW is an OBJECT, without FIELDS");
        for (int f = 0; f < 4; f++) {
            fails("LOAD of FIELD " + f, single(above(), row(2, 0, 5), load(3, 2, f)), KIND, 1);
            SiteObjects x = single(above(), row(2, 0, 5), lay(2, f, 2), store(2, f, 2));
            fails("STORE in FIELD " + f, x, KIND, 2);
            due("object(0, " + (4 + f) + ")", x.object(0, 4 + f), NONE);
            due("inside(0, " + f + ")", x.inside(0, f), 0);
        }
    }

    static void nothingIsMovedAndHeldAsWell() {
        about("VARS, FIELDS, PLACES and GLOBALS hold an OBJECT or NOTHING");
        gives("MOVE", single(above(), make(2, 0), move(3, 2), give(3)), 0, 0);
        gives("MOVE to itself", single(above(), make(2, 0), move(2, 2), give(2)), 0, 0);
        gives("MOVE of NOTHING", single(above(), make(2, 0), move(2, 3), give(2)), 0, NONE);
        gives("CLEAR", single(above(), make(2, 0), clear(2), give(2)), 0, NONE);
        gives("LOAD of NOTHING", single(above(), make(2, 0), make(3, 0), load(3, 2, 0), give(3)), 0, NONE);
        gives("STORE of NOTHING", single(above(), make(2, 0), store(2, 1, 2), store(2, 1, 3), load(4, 2, 1), give(4)), 0, NONE);
        gives("TAKE of NOTHING", single(above(), row(2, 0, 1), make(3, 0), take(3, 2, 0), give(3)), 0, NONE);
        gives("LAY of NOTHING", single(above(0), row(2, 1, 1), make(3, 1), lay(2, 0, 3), lay(2, 0, 4), take(3, 2, 0), give(3)), 0, NONE);
        gives("CAST of NOTHING", single(above(0), make(2, 0), cast(2, 3, 1), give(2)), 0, NONE);
        gives("PUT of NOTHING", single(above(), make(2, 0), put(1, 2), put(1, 3), get(2, 1), give(2)), 0, NONE);
        gives("GIVE of NOTHING", single(above(), make(2, 0), give(3)), 0, NONE);
        SiteObjects x = new Told().methods(STATIC, of(0, 0)).steps(0, make(2, 0), ask(3, 2, 0, 4), give(3)).steps(1, give(1)).work(0, 0);
        gives("an ARGUMENT that is NOTHING", x, 0, NONE);
    }

    static void globalsAreNothingAtFirst() {
        about("GLOBAL c (0 .. 3) (NOTHING at first)");
        for (int g = 0; g < 4; g++) {
            SiteObjects x = single(above(), make(2, 0), maybe(1), put(g, 2), get(2, g), give(2));
            gives("GLOBAL " + g + ", filled", x, 0, 0);
            gives("GLOBAL " + g + ", in the next run", x, 1, NONE);
            SiteObjects y = single(above(), make(2, 0), make(3, 0), make(4, 0), make(5, 0), put(0, 2), put(1, 3), put(2, 4),
                put(3, 5), get(0, g), give(0));
            gives("GLOBAL " + g + ", beside others", y, 0, g);
            due("global(" + g + ")", y.global(g), 1L << g);
        }
        SiteObjects z = new Told().methods(STATIC, STATIC).steps(0, call(2, 1, 2), get(3, 3), give(3)).steps(1, make(2, 0), put(3, 2)).work(0, 0);
        gives("a GLOBAL of another METHOD", z, 0, 0);
    }

    /** METHODS 1 and 2 have SELECTOR 0; 1 gives its ARGUMENT (OBJECT 1), 2 its RECEIVER (OBJECT 0). */
    static void asksAs(String of, SiteObjects x, int made, int outcome) {
        x.step(0, 0, 2, made, 0, 0);
        x.step(0, 0, 3, 0, 0, 0);
        x.step(0, 9, 4, 2, 0, 3);
        x.step(0, 11, 4, 0, 0, 0);
        x.step(1, 11, 1, 0, 0, 0);
        x.step(2, 11, 0, 0, 0, 0);
        x.work(0, 0, 0);
        gives(of + ", CLASS " + made, x, 0, outcome);
        due(of + ": held(0, 4)", x.held(0, 4), 1L << outcome);
    }

    static void theNearestMethodIsAsked() {
        about("the METHOD with SELECTOR c of b's OBJECT's CLASS, or, if that has none, of the nearest one that it lies below");
        int[] outcomes = {1, 1, 0, 0, 1, 1};
        for (int made = 0; made < 6; made++) {
            asksAs("of CLASSES 0 and 2", new Told(ABOVE).methods(STATIC, of(0, 0), of(2, 0)).x, made, outcomes[made]);
            // Here the METHODS are told ahead of the CLASSES below theirs.
            SiteObjects x = new Told(0, 1).methods(STATIC, of(0, 0), of(2, 0)).x;
            x.cls(2);
            x.cls(1);
            x.cls(0);
            asksAs("told ahead of CLASSES", x, made, outcomes[made]);
        }
        int[] backward = {0, 0, 1, 1, 0, 0};
        for (int made = 0; made < 6; made++) {
            asksAs("the nearer one told first", new Told(ABOVE).methods(STATIC, of(2, 0), of(0, 0)).x, made, backward[made]);
        }
        asksAs("another SELECTOR does not count", new Told(0).methods(STATIC, of(0, 0), of(1, 1)).x, 1, 1);
    }

    static void aNearerMethodToldBetweenTwo() {
        about("of the nearest one that it lies below: told last, between two others");
        SiteObjects x = new Told(0, 1).methods(STATIC, of(0, 0), of(2, 0), of(1, 0))
            .steps(0, make(2, 0), make(2, 1), make(2, 2), ask(3, 2, 0, 2)).work(0, 0);
        int[] nodes = {1, 3, 2};
        for (int n = 0; n < 3; n++) {
            due("METHOD of CLASS " + n, x.node(1 + n, 0), nodes[n]);
        }
    }

    static void aFartherMethodToldBehindMethodZero() {
        about("of the nearest one that it lies below: METHOD 0, though one of a CLASS above is told behind it");
        SiteObjects x = new SiteObjects();
        due("cls(0)", x.cls(0), 1);
        due("cls(1)", x.cls(1), 2);
        due("METHOD 0, of CLASS 1", x.method(1, 0), 0);
        due("METHOD 1, of CLASS 0", x.method(0, 0), 1);
        due("METHOD 2, STATIC", x.method(-1, 0), 2);
        for (int made = 0; made < 3; made++) {
            x.step(2, 0, 2 + made, made, 0, 0);
            x.step(2, 9, 5, 2 + made, 0, 5);
        }
        due("work(2, 0, 0)", x.work(2, 0, 0), 0);
        for (int made = 0; made < 3; made++) {
            due("METHOD of CLASS " + made, x.node(x.leads(0, 2 * made + 1, 0), 0), made == 0 ? 1 : 0);
        }
    }

    static void noneBelowOrBesideIsAsked() {
        about("6 NO METHOD: none of its CLASS, nor of one that it lies below");
        fails("of a CLASS below", new Told(0).methods(STATIC, of(1, 0)).steps(0, make(2, 0), ask(3, 2, 0, 2)).work(0, 0), NO_METHOD, 1);
        fails("of a CLASS beside", new Told(0, 0).methods(STATIC, of(1, 0)).steps(0, make(2, 2), ask(3, 2, 0, 2)).work(0, 0), NO_METHOD, 1);
        fails("with SELECTORS beside", new Told(0).methods(STATIC, of(0, 2), of(1, 4)).steps(0, make(2, 1), ask(3, 2, 3, 2)).work(0, 0),
            NO_METHOD, 1);
        SiteObjects x = new SiteObjects();
        due("METHOD 0, of CLASS 0", x.method(0, 0), 0);
        due("METHOD 1, STATIC", x.method(-1, 0), 1);
        x.step(1, 0, 2, 0, 0, 0);
        x.step(1, 9, 3, 2, 0, 2);
        x.step(1, 11, 3, 0, 0, 0);
        x.step(0, 11, 0, 0, 0, 0);
        x.work(1, 0, 0);
        gives("METHOD 0 is one as well", x, 0, 0);
        due("leads(0, 1, 0)", x.leads(0, 1, 0), 1);
    }

    static void calledMethods() {
        about("10 CALL: STATIC METHOD c, with ARGUMENT d, likewise: a becomes what it gives");
        SiteObjects x = new Told().methods(STATIC, STATIC, STATIC).steps(0, make(2, 0), make(3, 0), call(4, 2, 3), give(4))
            .steps(1, give(0)).steps(2, give(1)).work(0, 0);
        gives("METHOD 2 with VAR 3", x, 0, 1);
        SiteObjects y = new Told().methods(STATIC, STATIC).steps(0, maybe(1), call(2, 1, 2), make(3, 0), give(3))
            .steps(1, call(2, 0, 2), give(2)).work(0, 0);
        gives("METHOD 0 is called as well", y, 2, 1);
        due("OBJECTS", y.ran(2), 2);
    }

    static void aMethodEndsWithGive() {
        about("11 GIVE: the METHOD ends, and gives a");
        SiteObjects x = single(above(), make(2, 0), give(2), make(2, 0), give(3));
        gives("the first GIVE", x, 0, 0);
        due("STEPS that were begun", x.ran(1), 2);
        due("OBJECTS", x.ran(2), 1);
        SiteObjects y = new Told().methods(STATIC, STATIC).steps(0, call(2, 1, 2), make(3, 0), give(3))
            .steps(1, make(2, 0), give(2), make(2, 0)).work(0, 0);
        gives("the METHOD ends, not the one that called it", y, 0, 1);
        due("STEPS that were begun", y.ran(1), 5);
        due("OBJECTS", y.ran(2), 2);
    }

    public static void main(String[] args) throws Exception {
        runAll(ProgramEdgesTest.class);
    }
}
