import java.util.Arrays;

/**
 * What a small program of objects can make and hold, found once for all its runs, and runs in which
 * each thing that is held is held against what was found.
 *
 * All rows are made once, in the constructors: no later call makes an object or an array.
 */
public final class SiteObjects {
    public static final int BAD = -1, STATE = -2, FULL = -3, NONE = -9;

    private static final int MAX_CLASSES = 10, MAX_METHODS = 12, MAX_STEPS = 90, MAX_MAKERS = 55;
    private static final int MAX_NODES = 80, MAX_NAMES = 60, MAX_DEEP = 25, MAX_RUN_STEPS = 300;
    private static final int VARS = 6, FIELDS = 4, PLACES = 5, GLOBALS = 4, SELECTORS = 8;
    private static final int MODES = 3, DEPTHS = 3;

    private static final int MAKE = 0, ROW = 1, MOVE = 2, CLEAR = 3, LOAD = 4, STORE = 5, TAKE = 6, LAY = 7;
    private static final int CAST = 8, ASK = 9, CALL = 10, GIVE = 11, MAYBE = 12, PUT = 13, GET = 14;
    private static final int RAISE = 15, GUARD = 16, KINDS = 17;

    private static final int FAIL_NULL = 1, FAIL_KIND = 2, FAIL_PLACE = 3, FAIL_FITS = 4, FAIL_CAST = 5;
    private static final int FAIL_METHOD = 6, FAIL_RAISED = 7, FAIL_DEEP = 8, FAIL_SPENT = 9;

    /* Of which sort a number of a STEP has to be. */
    private static final int ANY = 0, A_VAR = 1, A_CLASS = 2, A_FIELD = 3, A_PLACE = 4, A_LENGTH = 5;
    private static final int A_SELECTOR = 6, A_STATIC = 7, A_SPAN = 8, A_GLOBAL = 9;

    /* The sorts of a, b, c, d, four for each KIND. */
    private static final int[] SORTS = {
        A_VAR, A_CLASS, ANY, ANY,
        A_VAR, A_CLASS, A_LENGTH, ANY,
        A_VAR, A_VAR, ANY, ANY,
        A_VAR, ANY, ANY, ANY,
        A_VAR, A_VAR, A_FIELD, ANY,
        A_VAR, A_VAR, A_FIELD, ANY,
        A_VAR, A_VAR, A_PLACE, ANY,
        A_VAR, A_VAR, A_PLACE, ANY,
        A_VAR, A_VAR, A_CLASS, ANY,
        A_VAR, A_VAR, A_SELECTOR, A_VAR,
        A_VAR, ANY, A_STATIC, A_VAR,
        A_VAR, ANY, ANY, ANY,
        ANY, A_SPAN, ANY, ANY,
        A_VAR, ANY, A_GLOBAL, ANY,
        A_VAR, ANY, A_GLOBAL, ANY,
        A_VAR, ANY, ANY, ANY,
        A_VAR, A_SPAN, A_CLASS, ANY
    };

    private final Program program;
    private final Finding now;
    private final Finding other;
    private final Runner runner;
    private int start;
    private boolean isFound;
    private boolean hasRun;

    public SiteObjects() {
        program = new Program();
        now = new Finding(program);
        other = new Finding(program);
        runner = new Runner(program, now);
    }

    public int cls(int above) {
        if (!program.isClass(above)) {
            return BAD;
        }
        return program.classes >= MAX_CLASSES ? FULL : changed(program.addClass(above));
    }

    public int method(int cls, int selector) {
        boolean isStatic = cls == -1;
        if (!isStatic && !program.isFreeFor(cls, selector)) {
            return BAD;
        }
        if (program.methods >= MAX_METHODS) {
            return FULL;
        }
        return changed(program.addMethod(cls, isStatic ? -1 : selector));
    }

    public int step(int method, int kind, int a, int b, int c, int d) {
        if (!program.isMethod(method) || !isIn(kind, KINDS)) {
            return BAD;
        }
        int sort = 4 * kind;
        if (!program.isOfSort(SORTS[sort], a) || !program.isOfSort(SORTS[sort + 1], b)
                || !program.isOfSort(SORTS[sort + 2], c) || !program.isOfSort(SORTS[sort + 3], d)) {
            return BAD;
        }
        if (!program.hasRoomFor(kind)) {
            return FULL;
        }
        int made = program.addStep(method, kind);
        program.tellNumbers(made, a, b, c, d);
        return changed(made);
    }

    public int work(int method, int mode, int depth) {
        if (!program.isStatic(method) || !isIn(mode, MODES) || !isIn(depth, DEPTHS)) {
            return BAD;
        }
        start = method;
        isFound = true;
        hasRun = false;
        return now.find(method, mode, depth);
    }

    public int name(int name, int what) {
        if (!isIn(what, 5)) {
            return BAD;
        }
        if (!isFound) {
            return STATE;
        }
        if (!isIn(name, now.sites.names)) {
            return BAD;
        }
        int maker = now.sites.nameStep[name];
        int home = now.sites.nameNode[name];
        switch (what) {
            case 0: return maker;
            case 1: return program.b[maker];
            case 2: return program.kind[maker] == ROW ? 1 : 0;
            case 3: return home;
            default: return now.once[home] ? 1 : 0;
        }
    }

    public int node(int node, int what) {
        if (!isIn(what, 5)) {
            return BAD;
        }
        if (!isFound) {
            return STATE;
        }
        if (!isIn(node, now.sites.nodes)) {
            return BAD;
        }
        switch (what) {
            case 0: return now.sites.nodeMethod[node];
            case 1: return now.sites.firstNumber(node);
            case 2: return now.sites.secondNumber(node);
            case 3: return now.once[node] ? 1 : 0;
            default: return now.leaders[node];
        }
    }

    public long held(int node, int var) {
        if (!isIn(var, Finding.SETS)) {
            return BAD;
        }
        if (!isFound) {
            return STATE;
        }
        return isIn(node, now.sites.nodes) ? now.setOf(node, var) : BAD;
    }

    public long inside(int name, int field) {
        if (!isIn(field, Finding.INSIDES)) {
            return BAD;
        }
        if (!isFound) {
            return STATE;
        }
        return isIn(name, now.sites.names) ? now.insideOf(name, field) : BAD;
    }

    public long global(int global) {
        if (!isIn(global, GLOBALS)) {
            return BAD;
        }
        return isFound ? now.globals[global] : STATE;
    }

    public int leads(int node, int step, int i) {
        if (!program.isLeading(step)) {
            return BAD;
        }
        if (!isFound) {
            return STATE;
        }
        if (!isIn(node, now.sites.nodes) || program.owner[step] != now.sites.nodeMethod[node]) {
            return BAD;
        }
        return now.reachedAt(node, step, i);
    }

    public int run(long bits, int steps) {
        if (steps < 1 || steps > MAX_RUN_STEPS) {
            return BAD;
        }
        if (!isFound) {
            return STATE;
        }
        hasRun = true;
        return runner.go(start, bits, steps);
    }

    public int ran(int what) {
        if (!isIn(what, Runner.TALLIES)) {
            return BAD;
        }
        return hasRun ? runner.tally[what] : NONE;
    }

    public int object(int i, int what) {
        if (!isIn(what, 13) || !hasRun || !isIn(i, runner.heap.objects)) {
            return BAD;
        }
        switch (what) {
            case 0: return runner.heap.makerOf[i];
            case 1: return runner.heap.nameOf[i];
            case 2: return runner.heap.nodeOf[i];
            case 3: return runner.heap.classOf(i);
            default: return what < 8 ? runner.heap.fieldOf(i, what - 4) : runner.heap.placeOf(i, what - 8);
        }
    }

    public int many(int name) {
        if (!isFound) {
            return STATE;
        }
        if (!isIn(name, now.sites.names)) {
            return BAD;
        }
        return hasRun ? runner.heap.countOf(name) : NONE;
    }

    public int count(int what) {
        switch (what) {
            case 0: return program.classes;
            case 1: return program.methods;
            case 2: return program.steps;
            case 3: return isFound ? now.sites.nodes : 0;
            case 4: return isFound ? now.sites.names : 0;
            case 5: return now.rounds;
            case 6: return isFound ? 1 : 0;
            default: return BAD;
        }
    }

    public int within(int mode, int depth) {
        if (!isIn(mode, MODES) || !isIn(depth, DEPTHS)) {
            return BAD;
        }
        if (!isFound) {
            return STATE;
        }
        other.find(start, mode, depth);
        for (int m = 0; m < program.methods; m++) {
            for (int v = 0; v < VARS; v++) {
                if (!other.isNoMoreThan(now, m, v)) {
                    return 0;
                }
            }
        }
        return 1;
    }

    /** What was found, and the latest run, are of the PROGRAM as it was. */
    private int changed(int answer) {
        isFound = false;
        hasRun = false;
        return answer;
    }

    private static boolean isIn(int number, int end) {
        return number >= 0 && number < end;
    }

    /** CLASSES, METHODS and STEPS as they were told. */
    private static final class Program {
        int classes = 1;
        int methods = 0;
        int steps = 0;
        int makers = 0;
        /* For each CLASS those that it lies below, as bits. */
        final int[] belowBits = new int[MAX_CLASSES];
        /* -1 for a STATIC METHOD. */
        final int[] methodClass = new int[MAX_METHODS];
        final int[] methodSelector = new int[MAX_METHODS];
        /* For each CLASS and SELECTOR the METHOD that is meant, if one of the CLASS is asked; -1 for none. */
        final int[] meant = new int[MAX_CLASSES * SELECTORS];
        final int[] length = new int[MAX_METHODS];
        final int[] lines = new int[MAX_METHODS * MAX_STEPS];
        final int[] kind = new int[MAX_STEPS];
        final int[] a = new int[MAX_STEPS];
        final int[] b = new int[MAX_STEPS];
        final int[] c = new int[MAX_STEPS];
        final int[] d = new int[MAX_STEPS];
        final int[] owner = new int[MAX_STEPS];
        final int[] place = new int[MAX_STEPS];

        Program() {
            belowBits[0] = 1;
            Arrays.fill(meant, -1);
        }

        boolean isClass(int cls) {
            return isIn(cls, classes);
        }

        boolean isMethod(int method) {
            return isIn(method, methods);
        }

        boolean isStatic(int method) {
            return isMethod(method) && methodClass[method] < 0;
        }

        boolean isLeading(int step) {
            return isIn(step, steps) && (kind[step] == ASK || kind[step] == CALL);
        }

        boolean isFreeFor(int cls, int selector) {
            if (!isClass(cls) || !isIn(selector, SELECTORS)) {
                return false;
            }
            for (int m = 0; m < methods; m++) {
                if (methodClass[m] == cls && methodSelector[m] == selector) {
                    return false;
                }
            }
            return true;
        }

        boolean isOfSort(int sort, int number) {
            switch (sort) {
                case A_VAR: return isIn(number, VARS);
                case A_CLASS: return isClass(number);
                case A_FIELD: return isIn(number, FIELDS);
                case A_PLACE: return isIn(number, 8);
                case A_LENGTH: return isIn(number, PLACES + 1);
                case A_SELECTOR: return isIn(number, SELECTORS);
                case A_STATIC: return isStatic(number);
                case A_SPAN: return number >= 1 && number <= 30;
                case A_GLOBAL: return isIn(number, GLOBALS);
                default: return true;
            }
        }

        boolean hasRoomFor(int newKind) {
            return steps < MAX_STEPS && (newKind > ROW || makers < MAX_MAKERS);
        }

        int addClass(int above) {
            belowBits[classes] = belowBits[above] | 1 << classes;
            System.arraycopy(meant, above * SELECTORS, meant, classes * SELECTORS, SELECTORS);
            classes++;
            return classes - 1;
        }

        int addMethod(int cls, int selector) {
            methodClass[methods] = cls;
            methodSelector[methods] = selector;
            if (cls >= 0) {
                setMeant(cls, selector, methods);
            }
            methods++;
            return methods - 1;
        }

        private void setMeant(int cls, int selector, int method) {
            for (int low = cls; low < classes; low++) {
                int at = low * SELECTORS + selector;
                // A CLASS is told behind all that it lies below, so the greatest number is the nearest.
                boolean isNearer = meant[at] < 0 || methodClass[meant[at]] < cls;
                if (liesBelow(low, cls) && isNearer) {
                    meant[at] = method;
                }
            }
        }

        int addStep(int method, int newKind) {
            int made = steps;
            kind[made] = newKind;
            owner[made] = method;
            place[made] = length[method];
            lines[method * MAX_STEPS + length[method]] = made;
            length[method]++;
            steps++;
            if (newKind <= ROW) {
                makers++;
            }
            return made;
        }

        void tellNumbers(int made, int newA, int newB, int newC, int newD) {
            a[made] = newA;
            b[made] = newB;
            c[made] = newC;
            d[made] = newD;
        }

        /** The STEP at a place of a METHOD; -1 behind the last one. */
        int stepAt(int method, int at) {
            return at >= 0 && at < length[method] ? lines[method * MAX_STEPS + at] : -1;
        }

        boolean liesBelow(int low, int high) {
            return (belowBits[low] >> high & 1) != 0;
        }

        /** The CLASS of what a MAKE or ROW makes. */
        int madeClass(int maker) {
            return kind[maker] == ROW ? 0 : b[maker];
        }

        int methodFor(int cls, int selector) {
            return meant[cls * SELECTORS + selector];
        }

        /** Whether a STEP is a GUARD that covers a place of its METHOD. */
        boolean covers(int step, int at) {
            return kind[step] == GUARD && place[step] < at && at <= place[step] + b[step];
        }
    }

    /** The NODES and NAMES by one MODE and DEPTH. */
    private static final class Sites {
        int mode = 0;
        int depth = 0;
        int nodes = 0;
        int names = 0;
        boolean tooMany = false;
        final int[] nodeMethod = new int[MAX_NODES];
        /* Two bytes each: the first number and the second, 1 more; 0 where there is none. */
        final int[] context = new int[MAX_NODES];
        final int[] nameStep = new int[MAX_NAMES];
        final int[] nameNode = new int[MAX_NAMES];

        void clear(int newMode, int newDepth) {
            mode = newMode;
            depth = newDepth;
            nodes = 0;
            names = 0;
            tooMany = false;
        }

        int firstNumber(int node) {
            int number = context[node] >> 8;
            return number == 0 ? NONE : number - 1;
        }

        int secondNumber(int node) {
            int number = context[node] & 255;
            return number == 0 ? NONE : number - 1;
        }

        int contextOfAsked(int node, int step, int receiver) {
            if (mode == 0) {
                return ahead(step, context[node]);
            }
            return ahead(nameStep[receiver] + 100, context[nameNode[receiver]]);
        }

        int contextOfCalled(int node, int step) {
            return mode == 1 ? context[node] : ahead(step, context[node]);
        }

        private int ahead(int number, int behind) {
            int first = (number + 1) << 8;
            switch (depth) {
                case 0: return 0;
                case 1: return first;
                default: return first | behind >> 8;
            }
        }

        int nodeWith(int method, int itsContext) {
            for (int n = 0; n < nodes; n++) {
                if (nodeMethod[n] == method && context[n] == itsContext) {
                    return n;
                }
            }
            return -1;
        }

        int nameWith(int node, int step) {
            for (int m = 0; m < names; m++) {
                if (nameStep[m] == step && nameNode[m] == node) {
                    return m;
                }
            }
            return -1;
        }

        /** A new NODE; -1, if there are too many. */
        int addNode(int method, int itsContext) {
            if (nodes >= MAX_NODES) {
                tooMany = true;
                return -1;
            }
            nodeMethod[nodes] = method;
            context[nodes] = itsContext;
            nodes++;
            return nodes - 1;
        }

        /** A new NAME; -1, if there are too many. */
        int addName(int node, int step) {
            if (names >= MAX_NAMES) {
                tooMany = true;
                return -1;
            }
            nameStep[names] = step;
            nameNode[names] = node;
            names++;
            return names - 1;
        }
    }

    /** The least sets of NAMES by one MODE and DEPTH; a set is a long, its bits are the NAMES. */
    private static final class Finding {
        static final int GIVES = 6, RAISES = 7, SETS = 8;
        static final int IN_PLACES = 4, INSIDES = 5;
        /* Each round but the last one adds to a set or finds a NODE: far fewer are ever needed. */
        static final int MAX_ROUNDS = 1000000;

        final Program program;
        final Sites sites;
        final long[] sets = new long[MAX_NODES * SETS];
        final long[] insides = new long[MAX_NAMES * INSIDES];
        final long[] globals = new long[GLOBALS];
        /* For each CLASS the NAMES that lie below it. */
        final long[] namesBelow = new long[MAX_CLASSES];
        long rowNames = 0;
        boolean isNew = false;
        int rounds = 0;
        /* How many STEPS of NODES lead to a NODE, and the NODE of the latest of them. */
        final int[] leaders = new int[MAX_NODES];
        final int[] leader = new int[MAX_NODES];
        final boolean[] once = new boolean[MAX_NODES];
        /* The NODES to which the STEP that was looked at last leads, as bits. */
        final long[] reached = new long[2];

        Finding(Program program) {
            this.program = program;
            this.sites = new Sites();
        }

        /** All is found; the answer is the DEPTH by which it was. */
        int find(int start, int mode, int depth) {
            for (int k = depth; k >= 0; k--) {
                attempt(start, mode, k);
                if (!sites.tooMany) {
                    break;
                }
            }
            countLeaders();
            return sites.depth;
        }

        private void attempt(int start, int mode, int depth) {
            sites.clear(mode, depth);
            Arrays.fill(globals, 0L);
            Arrays.fill(namesBelow, 0L);
            rowNames = 0;
            rounds = 0;
            nodeFor(start, 0);
            isNew = true;
            while (isNew && !sites.tooMany && rounds < MAX_ROUNDS) {
                isNew = false;
                rounds++;
                for (int n = 0; n < sites.nodes; n++) {
                    int method = sites.nodeMethod[n];
                    for (int at = 0; at < program.length[method] && !sites.tooMany; at++) {
                        doStep(n, program.stepAt(method, at));
                    }
                }
            }
        }

        private void doStep(int node, int step) {
            int a = program.a[step];
            int b = program.b[step];
            int c = program.c[step];
            switch (program.kind[step]) {
                case MAKE:
                case ROW: addToVar(node, a, nameFor(node, step)); break;
                case MOVE: addToVar(node, a, setOf(node, b)); break;
                case LOAD: addToVar(node, a, insideAny(setOf(node, b) & ~rowNames, c)); break;
                case STORE: storeInAll(setOf(node, a) & ~rowNames, c, setOf(node, b)); break;
                case TAKE: addToVar(node, a, insideAny(setOf(node, b) & rowNames, IN_PLACES)); break;
                case LAY: layInAll(setOf(node, a) & rowNames, setOf(node, b)); break;
                case CAST: addToVar(node, a, setOf(node, b) & namesBelow[c]); break;
                case ASK: doAsk(node, step); break;
                case CALL: doCall(node, step); break;
                case GIVE: addToVar(node, GIVES, setOf(node, a)); break;
                case PUT: addToGlobal(c, setOf(node, a)); break;
                case GET: addToVar(node, a, globals[c]); break;
                case RAISE: raiseAt(node, step, setOf(node, a)); break;
                default: break;
            }
        }

        private void doAsk(int node, int step) {
            // What comes to b meanwhile is for the next round: the set is read once.
            long receivers = setOf(node, program.b[step]);
            for (int m = 0; m < sites.names && receivers >> m != 0; m++) {
                int method = (receivers >> m & 1) != 0 ? methodAskedOf(m, step) : -1;
                if (method >= 0) {
                    link(node, step, nodeFor(method, sites.contextOfAsked(node, step, m)), 1L << m);
                }
            }
        }

        private void doCall(int node, int step) {
            link(node, step, nodeFor(program.c[step], sites.contextOfCalled(node, step)), 0L);
        }

        private void link(int node, int step, int target, long receiver) {
            if (target < 0) {
                return;
            }
            addToVar(target, 0, receiver);
            addToVar(target, 1, setOf(node, program.d[step]));
            addToVar(node, program.a[step], setOf(target, GIVES));
            raiseAt(node, step, setOf(target, RAISES));
        }

        private void raiseAt(int node, int step, long raised) {
            int at = program.place[step];
            long left = raised;
            for (int p = at - 1; p >= 0 && left != 0; p--) {
                int guard = program.stepAt(sites.nodeMethod[node], p);
                if (guard >= 0 && program.covers(guard, at)) {
                    long taken = left & namesBelow[program.c[guard]];
                    addToVar(node, program.a[guard], taken);
                    left &= ~taken;
                }
            }
            addToVar(node, RAISES, left);
        }

        private int methodAskedOf(int name, int step) {
            return program.methodFor(program.madeClass(sites.nameStep[name]), program.c[step]);
        }

        /** The NODE of a METHOD and CONTEXT, a new one if there is none; -1, if there are too many. */
        private int nodeFor(int method, int context) {
            int known = sites.nodeWith(method, context);
            if (known >= 0) {
                return known;
            }
            int made = sites.addNode(method, context);
            if (made >= 0) {
                for (int v = 0; v < SETS; v++) {
                    sets[made * SETS + v] = 0L;
                }
                isNew = true;
            }
            return made;
        }

        /** The NAME of what a STEP makes in a NODE, as a set; empty, if there are too many. */
        private long nameFor(int node, int step) {
            int known = sites.nameWith(node, step);
            if (known >= 0) {
                return 1L << known;
            }
            int made = sites.addName(node, step);
            if (made < 0) {
                return 0L;
            }
            long bit = 1L << made;
            for (int f = 0; f < INSIDES; f++) {
                insides[made * INSIDES + f] = 0L;
            }
            if (program.kind[step] == ROW) {
                rowNames |= bit;
            }
            for (int c = 0; c < program.classes; c++) {
                if (program.liesBelow(program.madeClass(step), c)) {
                    namesBelow[c] |= bit;
                }
            }
            return bit;
        }

        long setOf(int node, int var) {
            return sets[node * SETS + var];
        }

        long insideOf(int name, int field) {
            return insides[name * INSIDES + field];
        }

        private void addToVar(int node, int var, long more) {
            int at = node * SETS + var;
            if ((more & ~sets[at]) != 0) {
                sets[at] |= more;
                isNew = true;
            }
        }

        private void addToGlobal(int global, long more) {
            if ((more & ~globals[global]) != 0) {
                globals[global] |= more;
                isNew = true;
            }
        }

        private void addInside(int name, int field, long more) {
            int at = name * INSIDES + field;
            if ((more & ~insides[at]) != 0) {
                insides[at] |= more;
                isNew = true;
            }
        }

        private void storeInAll(long names, int field, long things) {
            for (int m = 0; m < sites.names && names >> m != 0; m++) {
                if ((names >> m & 1) != 0) {
                    addInside(m, field, things);
                }
            }
        }

        private void layInAll(long rows, long things) {
            for (int m = 0; m < sites.names && rows >> m != 0; m++) {
                if ((rows >> m & 1) != 0) {
                    addInside(m, IN_PLACES, things & namesBelow[program.b[sites.nameStep[m]]]);
                }
            }
        }

        private long insideAny(long names, int field) {
            long all = 0L;
            for (int m = 0; m < sites.names && names >> m != 0; m++) {
                if ((names >> m & 1) != 0) {
                    all |= insideOf(m, field);
                }
            }
            return all;
        }

        /** Fills the row of the NODES to which an ASK or CALL leads, when all is found. */
        private void reach(int node, int step) {
            reached[0] = 0L;
            reached[1] = 0L;
            if (program.kind[step] == CALL) {
                noteReached(sites.nodeWith(program.c[step], sites.contextOfCalled(node, step)));
                return;
            }
            long receivers = setOf(node, program.b[step]);
            for (int m = 0; m < sites.names && receivers >> m != 0; m++) {
                int method = (receivers >> m & 1) != 0 ? methodAskedOf(m, step) : -1;
                if (method >= 0) {
                    noteReached(sites.nodeWith(method, sites.contextOfAsked(node, step, m)));
                }
            }
        }

        private void noteReached(int target) {
            if (target >= 0) {
                reached[target >> 6] |= 1L << (target & 63);
            }
        }

        private boolean isReached(int target) {
            return (reached[target >> 6] >> (target & 63) & 1) != 0;
        }

        /** The i-th NODE by number to which an ASK or CALL leads; NONE, also where i is below 0. */
        int reachedAt(int node, int step, int i) {
            if (i < 0) {
                return NONE;
            }
            reach(node, step);
            int left = i;
            for (int t = 0; t < sites.nodes; t++) {
                if (isReached(t)) {
                    if (left == 0) {
                        return t;
                    }
                    left--;
                }
            }
            return NONE;
        }

        private void countLeaders() {
            Arrays.fill(leaders, 0);
            for (int n = 0; n < sites.nodes; n++) {
                int method = sites.nodeMethod[n];
                for (int at = 0; at < program.length[method]; at++) {
                    int step = program.stepAt(method, at);
                    if (program.isLeading(step)) {
                        reach(n, step);
                        countReached(n);
                    }
                }
            }
            settleOnce();
        }

        private void countReached(int from) {
            for (int t = 0; t < sites.nodes; t++) {
                if (isReached(t)) {
                    leaders[t]++;
                    leader[t] = from;
                }
            }
        }

        private void settleOnce() {
            once[0] = leaders[0] == 0;
            for (int n = 1; n < sites.nodes; n++) {
                // An only leader is the one that found the NODE: it has a smaller number, and is settled.
                once[n] = leaders[n] == 1 && leader[n] < n && once[leader[n]];
            }
        }

        /** Whether the STEPS whose NAMES a VAR of a METHOD holds here are among those of another finding. */
        boolean isNoMoreThan(Finding wider, int method, int var) {
            long mine = namesIn(method, var);
            long its = wider.namesIn(method, var);
            for (int m = 0; m < sites.names && mine >> m != 0; m++) {
                if ((mine >> m & 1) != 0 && !wider.hasStep(its, sites.nameStep[m])) {
                    return false;
                }
            }
            return true;
        }

        private long namesIn(int method, int var) {
            long all = 0L;
            for (int n = 0; n < sites.nodes; n++) {
                if (sites.nodeMethod[n] == method) {
                    all |= setOf(n, var);
                }
            }
            return all;
        }

        private boolean hasStep(long names, int step) {
            for (int m = 0; m < sites.names && names >> m != 0; m++) {
                if ((names >> m & 1) != 0 && sites.nameStep[m] == step) {
                    return true;
                }
            }
            return false;
        }
    }

    /** The OBJECTS of a run and what is in them; NONE stands for NOTHING. */
    private static final class Heap {
        final Program program;
        int objects = 0;
        final int[] makerOf = new int[MAX_RUN_STEPS];
        final int[] nameOf = new int[MAX_RUN_STEPS];
        final int[] nodeOf = new int[MAX_RUN_STEPS];
        /* FIELDS of what is no ROW, PLACES of a ROW. */
        final int[] slots = new int[MAX_RUN_STEPS * PLACES];
        final int[] globals = new int[GLOBALS];

        Heap(Program program) {
            this.program = program;
        }

        void clear() {
            objects = 0;
            Arrays.fill(globals, NONE);
        }

        /** A new OBJECT; a run has no more STEPS than there is room for OBJECTS. */
        int add(int maker, int itsName, int itsNode) {
            if (objects >= MAX_RUN_STEPS) {
                return NONE;
            }
            int made = objects;
            makerOf[made] = maker;
            nameOf[made] = itsName;
            nodeOf[made] = itsNode;
            for (int p = 0; p < PLACES; p++) {
                slots[made * PLACES + p] = NONE;
            }
            objects++;
            return made;
        }

        boolean isRow(int thing) {
            return program.kind[makerOf[thing]] == ROW;
        }

        int classOf(int thing) {
            return program.madeClass(makerOf[thing]);
        }

        int rowClass(int row) {
            return program.b[makerOf[row]];
        }

        boolean hasPlace(int row, int place) {
            return isIn(place, program.c[makerOf[row]]);
        }

        int fieldOf(int thing, int field) {
            return isRow(thing) ? NONE : slots[thing * PLACES + field];
        }

        int placeOf(int thing, int place) {
            return isRow(thing) ? slots[thing * PLACES + place] : NONE;
        }

        int countOf(int itsName) {
            int all = 0;
            for (int i = 0; i < objects; i++) {
                if (nameOf[i] == itsName) {
                    all++;
                }
            }
            return all;
        }
    }

    /** The METHODS that stand open in a run, the latest on top. */
    private static final class Frames {
        int open = 0;
        final int[] methodOf = new int[MAX_DEEP];
        final int[] nodeOf = new int[MAX_DEEP];
        /* The place behind the STEP that was begun last. */
        final int[] next = new int[MAX_DEEP];
        final int[] vars = new int[MAX_DEEP * VARS];

        boolean isFull() {
            return open >= MAX_DEEP;
        }

        void push(int method, int node) {
            methodOf[open] = method;
            nodeOf[open] = node;
            next[open] = 0;
            for (int v = 0; v < VARS; v++) {
                vars[open * VARS + v] = NONE;
            }
            open++;
        }

        int topMethod() {
            return methodOf[open - 1];
        }

        int topNode() {
            return nodeOf[open - 1];
        }

        int topNext() {
            return next[open - 1];
        }

        void goOnAt(int place) {
            next[open - 1] = place;
        }

        int varOf(int var) {
            return vars[(open - 1) * VARS + var];
        }

        void setVar(int var, int thing) {
            vars[(open - 1) * VARS + var] = thing;
        }
    }

    /** A run, in which each thing that is held is held against what was found. */
    private static final class Runner {
        static final int ANSWER = 0, BEGUN = 1, OBJECTS = 2, HOLDS = 3, STRAYS = 4, DEEPEST = 5;
        static final int FAILED_AT = 6, OUTCOME = 7, BITS_ASKED = 8, TALLIES = 9;
        /* Each turn begins a STEP or ends a METHOD that a STEP has begun. */
        static final int MAX_TURNS = 10 * MAX_RUN_STEPS;

        final Program program;
        final Finding finding;
        final Heap heap;
        final Frames frames = new Frames();
        final int[] tally = new int[TALLIES];
        long bits = 0;
        int budget = 0;
        boolean isGoing = false;

        Runner(Program program, Finding finding) {
            this.program = program;
            this.finding = finding;
            this.heap = new Heap(program);
        }

        int go(int start, long newBits, int newBudget) {
            heap.clear();
            Arrays.fill(tally, 0);
            tally[FAILED_AT] = NONE;
            tally[OUTCOME] = NONE;
            bits = newBits;
            budget = newBudget;
            frames.open = 0;
            isGoing = true;
            enter(start, 0, NONE, NONE);
            for (int turn = 0; turn < MAX_TURNS && isGoing; turn++) {
                takeTurn();
            }
            return tally[ANSWER];
        }

        private void takeTurn() {
            int step = program.stepAt(frames.topMethod(), frames.topNext());
            if (step < 0) {
                leave(NONE);
            } else if (tally[BEGUN] >= budget) {
                fail(FAIL_SPENT, step);
            } else {
                tally[BEGUN]++;
                frames.goOnAt(frames.topNext() + 1);
                doStep(step);
            }
        }

        private void doStep(int step) {
            int a = program.a[step];
            int b = program.b[step];
            int c = program.c[step];
            switch (program.kind[step]) {
                case MAKE:
                case ROW: make(step); break;
                case MOVE: setVar(a, frames.varOf(b)); break;
                case CLEAR: setVar(a, NONE); break;
                case LOAD: load(step, frames.varOf(b)); break;
                case STORE: store(step, frames.varOf(a)); break;
                case TAKE: take(step, frames.varOf(b)); break;
                case LAY: lay(step, frames.varOf(a), frames.varOf(b)); break;
                case CAST: cast(step, frames.varOf(b)); break;
                case ASK: ask(step, frames.varOf(b)); break;
                case CALL: call(step); break;
                case GIVE: leave(frames.varOf(a)); break;
                case MAYBE: maybe(b); break;
                case PUT: setGlobal(c, frames.varOf(a)); break;
                case GET: setVar(a, heap.globals[c]); break;
                case RAISE: raise(step, frames.varOf(a)); break;
                default: break;
            }
        }

        private void make(int step) {
            int home = frames.topNode();
            int made = heap.add(step, finding.sites.nameWith(home, step), home);
            tally[OBJECTS] = heap.objects;
            setVar(program.a[step], made);
        }

        private void load(int step, int thing) {
            if (thing == NONE) {
                fail(FAIL_NULL, step);
            } else if (heap.isRow(thing)) {
                fail(FAIL_KIND, step);
            } else {
                setVar(program.a[step], heap.fieldOf(thing, program.c[step]));
            }
        }

        private void store(int step, int thing) {
            if (thing == NONE) {
                fail(FAIL_NULL, step);
            } else if (heap.isRow(thing)) {
                fail(FAIL_KIND, step);
            } else {
                setInside(thing, program.c[step], program.c[step], frames.varOf(program.b[step]));
            }
        }

        private void take(int step, int row) {
            int failure = failureOfPlace(row, program.c[step]);
            if (failure != 0) {
                fail(failure, step);
            } else {
                setVar(program.a[step], heap.placeOf(row, program.c[step]));
            }
        }

        private void lay(int step, int row, int thing) {
            int failure = failureOfPlace(row, program.c[step]);
            if (failure != 0) {
                fail(failure, step);
            } else if (thing != NONE && !program.liesBelow(heap.classOf(thing), heap.rowClass(row))) {
                fail(FAIL_FITS, step);
            } else {
                setInside(row, program.c[step], Finding.IN_PLACES, thing);
            }
        }

        private int failureOfPlace(int row, int place) {
            if (row == NONE) {
                return FAIL_NULL;
            }
            if (!heap.isRow(row)) {
                return FAIL_KIND;
            }
            return heap.hasPlace(row, place) ? 0 : FAIL_PLACE;
        }

        private void cast(int step, int thing) {
            if (thing != NONE && !program.liesBelow(heap.classOf(thing), program.c[step])) {
                fail(FAIL_CAST, step);
            } else {
                setVar(program.a[step], thing);
            }
        }

        private void ask(int step, int receiver) {
            if (receiver == NONE) {
                fail(FAIL_NULL, step);
                return;
            }
            int method = program.methodFor(heap.classOf(receiver), program.c[step]);
            if (method < 0) {
                fail(FAIL_METHOD, step);
            } else if (frames.isFull()) {
                fail(FAIL_DEEP, step);
            } else {
                enter(method, nodeAsked(method, step, heap.nameOf[receiver]), receiver, frames.varOf(program.d[step]));
            }
        }

        private void call(int step) {
            if (frames.isFull()) {
                fail(FAIL_DEEP, step);
            } else {
                int method = program.c[step];
                enter(method, nodeCalled(method, step), NONE, frames.varOf(program.d[step]));
            }
        }

        /** The NODE that was found for what is asked now; -1, if none was. */
        private int nodeAsked(int method, int step, int receiver) {
            int from = frames.topNode();
            if (from < 0 || receiver < 0) {
                return -1;
            }
            return finding.sites.nodeWith(method, finding.sites.contextOfAsked(from, step, receiver));
        }

        private int nodeCalled(int method, int step) {
            int from = frames.topNode();
            return from < 0 ? -1 : finding.sites.nodeWith(method, finding.sites.contextOfCalled(from, step));
        }

        private void enter(int method, int node, int receiver, int argument) {
            frames.push(method, node);
            tally[DEEPEST] = Math.max(tally[DEEPEST], frames.open);
            setVar(0, receiver);
            setVar(1, argument);
        }

        private void leave(int given) {
            frames.open--;
            if (frames.open == 0) {
                tally[OUTCOME] = given;
                isGoing = false;
                return;
            }
            int asker = program.stepAt(frames.topMethod(), frames.topNext() - 1);
            if (asker >= 0) {
                setVar(program.a[asker], given);
            }
        }

        private void maybe(int span) {
            boolean isSet = tally[BITS_ASKED] < 64 && (bits >>> tally[BITS_ASKED] & 1) != 0;
            tally[BITS_ASKED]++;
            if (isSet) {
                frames.goOnAt(frames.topNext() + span);
            }
        }

        private void raise(int step, int thing) {
            if (thing == NONE) {
                fail(FAIL_NULL, step);
                return;
            }
            for (int left = frames.open; left > 0; left--) {
                int guard = guardFor(heap.classOf(thing));
                if (guard >= 0) {
                    setVar(program.a[guard], thing);
                    frames.goOnAt(program.place[guard] + program.b[guard] + 1);
                    return;
                }
                frames.open--;
            }
            tally[OUTCOME] = thing;
            fail(FAIL_RAISED, step);
        }

        /** The latest GUARD that takes what is raised at the STEP on top; -1, if none does. */
        private int guardFor(int cls) {
            int at = frames.topNext() - 1;
            for (int p = at - 1; p >= 0; p--) {
                int guard = program.stepAt(frames.topMethod(), p);
                if (guard >= 0 && program.covers(guard, at) && program.liesBelow(cls, program.c[guard])) {
                    return guard;
                }
            }
            return -1;
        }

        private void fail(int failure, int step) {
            tally[ANSWER] = failure;
            tally[FAILED_AT] = step;
            isGoing = false;
        }

        private void setVar(int var, int thing) {
            frames.setVar(var, thing);
            int home = frames.topNode();
            tallyHold(thing, home < 0 ? 0L : finding.setOf(home, var));
        }

        /** A FIELD or PLACE becomes a thing; what was found of it has a number of its own. */
        private void setInside(int holder, int slot, int field, int thing) {
            heap.slots[holder * PLACES + slot] = thing;
            int itsName = heap.nameOf[holder];
            tallyHold(thing, itsName < 0 ? 0L : finding.insideOf(itsName, field));
        }

        private void setGlobal(int global, int thing) {
            heap.globals[global] = thing;
            tallyHold(thing, finding.globals[global]);
        }

        private void tallyHold(int thing, long found) {
            if (thing == NONE) {
                return;
            }
            tally[HOLDS]++;
            int itsName = heap.nameOf[thing];
            if (itsName < 0 || (found >> itsName & 1) == 0) {
                tally[STRAYS]++;
            }
        }
    }
}
