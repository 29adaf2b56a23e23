import java.util.ArrayList;
import java.util.Arrays;
import java.util.HashSet;
import java.util.List;
import java.util.Random;
import java.util.Set;
import java.util.TreeSet;

/**
 * Random programs (the same ones each time), in which every answer of SiteObjects is held against a plain
 * second telling of the document: sets of numbers for what is found, a recursive walk for runs.
 */
public final class ModelTest extends Dues {
    static final int[] failuresSeen = new int[10];
    static int lessDeepSeen = 0, notWithinSeen = 0, notOneSeen = 0, leadsSeen = 0, bits64Seen = 0;

    /** How often a STEP is of each KIND: those of the usual programs, and of those that ask for many bits. */
    static final int[] USUAL = {0, 0, 0, 1, 2, 4, 5, 5, 6, 7, 8, 9, 9, 9, 9, 9, 10, 10, 11, 12, 13, 14, 14, 15, 16, 16, 3};
    static final int[] OF_BITS = {0, 12, 12, 12, 12, 10, 10, 10, 3, 16};

    /** The program as told, as lists. */
    static final class Listed {
        final List<Integer> above = new ArrayList<>(List.of(-1));
        final List<int[]> methods = new ArrayList<>();
        final List<int[]> steps = new ArrayList<>();

        boolean below(int low, int high) {
            return low == high || low > 0 && below(above.get(low), high);
        }

        List<Integer> stepsOf(int method) {
            List<Integer> all = new ArrayList<>();
            for (int s = 0; s < steps.size(); s++) {
                if (steps.get(s)[0] == method) {
                    all.add(s);
                }
            }
            return all;
        }

        boolean isRow(int step) {
            return steps.get(step)[1] == 1;
        }

        int madeClass(int step) {
            return isRow(step) ? 0 : steps.get(step)[3];
        }

        int asked(int cls, int selector) {
            for (int c = cls; c >= 0; c = above.get(c)) {
                for (int m = 0; m < methods.size(); m++) {
                    if (methods.get(m)[0] == c && methods.get(m)[1] == selector) {
                        return m;
                    }
                }
            }
            return -1;
        }
    }

    record Node(int method, List<Integer> context) { }

    record Name(int step, int node) { }

    record Edge(int node, int step, int target) { }

    static final class TooMany extends RuntimeException { }

    /** What is found. */
    static final class Found {
        final Listed told;
        final int mode;
        final int depth;
        final List<Node> nodes = new ArrayList<>();
        final List<Name> names = new ArrayList<>();
        final List<List<Set<Integer>>> held = new ArrayList<>();
        final List<List<Set<Integer>>> inside = new ArrayList<>();
        final List<Set<Integer>> globals = new ArrayList<>();
        final Set<Edge> edges = new HashSet<>();
        boolean news = true;
        int rounds = 0;

        Found(Listed told, int start, int mode, int depth) {
            this.told = told;
            this.mode = mode;
            this.depth = depth;
            for (int g = 0; g < 4; g++) {
                globals.add(new TreeSet<>());
            }
            node(new Node(start, List.of()));
            while (news) {
                news = false;
                rounds++;
                for (int n = 0; n < nodes.size(); n++) {
                    for (int s : told.stepsOf(nodes.get(n).method)) {
                        step(n, s);
                    }
                }
            }
        }

        static Found of(Listed told, int start, int mode, int depth) {
            try {
                return new Found(told, start, mode, depth);
            } catch (TooMany more) {
                return of(told, start, mode, depth - 1);
            }
        }

        static List<Set<Integer>> empties(int many) {
            List<Set<Integer>> all = new ArrayList<>();
            for (int i = 0; i < many; i++) {
                all.add(new TreeSet<>());
            }
            return all;
        }

        int node(Node it) {
            if (!nodes.contains(it)) {
                if (nodes.size() == 80) {
                    throw new TooMany();
                }
                nodes.add(it);
                held.add(empties(8));
                news = true;
            }
            return nodes.indexOf(it);
        }

        int name(Name it) {
            if (!names.contains(it)) {
                if (names.size() == 60) {
                    throw new TooMany();
                }
                names.add(it);
                inside.add(empties(5));
                news = true;
            }
            return names.indexOf(it);
        }

        List<Integer> context(int number, List<Integer> behind) {
            List<Integer> all = new ArrayList<>();
            all.add(number);
            all.addAll(behind);
            return List.copyOf(all.subList(0, Math.min(depth, all.size())));
        }

        Node asked(int node, int step, int method, int receiver) {
            if (mode == 0) {
                return new Node(method, context(step, nodes.get(node).context));
            }
            Name it = names.get(receiver);
            return new Node(method, context(it.step + 100, nodes.get(it.node).context));
        }

        Node called(int node, int step, int method) {
            List<Integer> own = nodes.get(node).context;
            return new Node(method, mode == 1 ? own : context(step, own));
        }

        int classOf(int name) {
            return told.madeClass(names.get(name).step);
        }

        void add(Set<Integer> to, Set<Integer> more) {
            if (to.addAll(new ArrayList<>(more))) {
                news = true;
            }
        }

        void addBelow(Set<Integer> to, Set<Integer> more, int cls) {
            Set<Integer> fit = new TreeSet<>(more);
            fit.removeIf(m -> !told.below(classOf(m), cls));
            add(to, fit);
        }

        void step(int n, int s) {
            int[] t = told.steps.get(s);
            int a = t[2], b = t[3], c = t[4];
            List<Set<Integer>> v = held.get(n);
            switch (t[1]) {
                case 0, 1 -> add(v.get(a), Set.of(name(new Name(s, n))));
                case 2 -> add(v.get(a), v.get(b));
                case 4, 6 -> {
                    for (int m : List.copyOf(v.get(b))) {
                        if (told.isRow(names.get(m).step) == (t[1] == 6)) {
                            add(v.get(a), inside.get(m).get(t[1] == 6 ? 4 : c));
                        }
                    }
                }
                case 5 -> {
                    for (int m : v.get(a)) {
                        if (!told.isRow(names.get(m).step)) {
                            add(inside.get(m).get(c), v.get(b));
                        }
                    }
                }
                case 7 -> {
                    for (int m : v.get(a)) {
                        if (told.isRow(names.get(m).step)) {
                            addBelow(inside.get(m).get(4), v.get(b), told.steps.get(names.get(m).step)[3]);
                        }
                    }
                }
                case 8 -> addBelow(v.get(a), v.get(b), c);
                case 9 -> {
                    for (int m : List.copyOf(v.get(b))) {
                        int method = told.asked(classOf(m), c);
                        if (method >= 0) {
                            int to = node(asked(n, s, method, m));
                            add(held.get(to).get(0), Set.of(m));
                            link(n, s, to);
                        }
                    }
                }
                case 10 -> link(n, s, node(called(n, s, c)));
                case 11 -> add(v.get(6), v.get(a));
                case 13 -> add(globals.get(c), v.get(a));
                case 14 -> add(v.get(a), globals.get(c));
                case 15 -> raise(n, s, v.get(a));
                default -> { }
            }
        }

        void link(int n, int s, int to) {
            int[] t = told.steps.get(s);
            edges.add(new Edge(n, s, to));
            add(held.get(to).get(1), held.get(n).get(t[5]));
            add(held.get(n).get(t[2]), held.get(to).get(6));
            raise(n, s, held.get(to).get(7));
        }

        void raise(int n, int s, Set<Integer> what) {
            Set<Integer> left = new TreeSet<>(what);
            List<Integer> line = told.stepsOf(nodes.get(n).method);
            int at = line.indexOf(s);
            for (int p = at - 1; p >= 0; p--) {
                int[] g = told.steps.get(line.get(p));
                if (g[1] == 16 && p + g[3] >= at) {
                    addBelow(held.get(n).get(g[2]), left, g[4]);
                    left.removeIf(m -> told.below(classOf(m), g[4]));
                }
            }
            add(held.get(n).get(7), left);
        }

        int leaders(int node) {
            Set<List<Integer>> all = new HashSet<>();
            for (Edge e : edges) {
                if (e.target == node) {
                    all.add(List.of(e.node, e.step));
                }
            }
            return all.size();
        }

        boolean once(int node) {
            if (node == 0) {
                return leaders(0) == 0;
            }
            if (leaders(node) != 1) {
                return false;
            }
            for (Edge e : edges) {
                if (e.target == node) {
                    return once(e.node);
                }
            }
            return false;
        }

        Set<Integer> stepsHeld(int method, int var) {
            Set<Integer> all = new TreeSet<>();
            for (int n = 0; n < nodes.size(); n++) {
                if (nodes.get(n).method == method) {
                    for (int m : held.get(n).get(var)) {
                        all.add(names.get(m).step);
                    }
                }
            }
            return all;
        }
    }

    static final class Failed extends RuntimeException {
        final int failure;
        final int step;

        Failed(int failure, int step) {
            this.failure = failure;
            this.step = step;
        }
    }

    static final class Raised extends RuntimeException {
        final Thing what;
        final int step;

        Raised(Thing what, int step) {
            this.what = what;
            this.step = step;
        }
    }

    static final class Thing {
        int number, step, name, node;
        final Thing[] fields = new Thing[4];
        Thing[] places = new Thing[0];
    }

    /** A run. */
    static final class Run {
        final Listed told;
        final Found found;
        final long bits;
        final int budget;
        final List<Thing> things = new ArrayList<>();
        final Thing[] globals = new Thing[4];
        int begun = 0, holds = 0, strays = 0, deepest = 0, asked = 0;
        int answer = 0, at = -9;
        Thing outcome = null;

        Run(Listed told, Found found, long bits, int budget) {
            this.told = told;
            this.found = found;
            this.bits = bits;
            this.budget = budget;
            try {
                outcome = method(found.nodes.get(0), null, null, 1);
            } catch (Failed f) {
                answer = f.failure;
                at = f.step;
            } catch (Raised r) {
                answer = 7;
                at = r.step;
                outcome = r.what;
            }
        }

        Thing hold(Thing what, Set<Integer> where) {
            if (what != null) {
                holds++;
                strays += where.contains(what.name) ? 0 : 1;
            }
            return what;
        }

        Thing method(Node node, Thing receiver, Thing argument, int deep) {
            deepest = Math.max(deepest, deep);
            int n = found.nodes.indexOf(node);
            List<Set<Integer>> sets = found.held.get(n);
            Thing[] v = new Thing[6];
            v[0] = hold(receiver, sets.get(0));
            v[1] = hold(argument, sets.get(1));
            List<Integer> line = told.stepsOf(node.method);
            int p = 0;
            while (p < line.size()) {
                int s = line.get(p);
                int[] t = told.steps.get(s);
                if (begun == budget) {
                    throw new Failed(9, s);
                }
                begun++;
                try {
                    if (t[1] == 11) {
                        return v[t[2]];
                    }
                    p += 1 + step(n, s, v, deep);
                } catch (Raised r) {
                    int g = guard(line, p, told.madeClass(r.what.step));
                    if (g < 0) {
                        throw r;
                    }
                    int[] u = told.steps.get(line.get(g));
                    v[u[2]] = hold(r.what, sets.get(u[2]));
                    p = g + u[3] + 1;
                }
            }
            return null;
        }

        int guard(List<Integer> line, int at, int cls) {
            for (int p = at - 1; p >= 0; p--) {
                int[] g = told.steps.get(line.get(p));
                if (g[1] == 16 && p + g[3] >= at && told.below(cls, g[4])) {
                    return p;
                }
            }
            return -1;
        }

        static void check(boolean holds, int failure, int s) {
            if (!holds) {
                throw new Failed(failure, s);
            }
        }

        int step(int n, int s, Thing[] v, int deep) {
            int[] t = told.steps.get(s);
            int a = t[2], b = t[3], c = t[4], d = t[5];
            List<Set<Integer>> sets = found.held.get(n);
            switch (t[1]) {
                case 0, 1 -> {
                    Thing made = new Thing();
                    made.number = things.size();
                    made.step = s;
                    made.node = n;
                    made.name = found.names.indexOf(new Name(s, n));
                    made.places = new Thing[t[1] == 1 ? c : 0];
                    things.add(made);
                    v[a] = hold(made, sets.get(a));
                }
                case 2 -> v[a] = hold(v[b], sets.get(a));
                case 3 -> v[a] = null;
                case 4 -> {
                    check(v[b] != null, 1, s);
                    check(!told.isRow(v[b].step), 2, s);
                    v[a] = hold(v[b].fields[c], sets.get(a));
                }
                case 5 -> {
                    check(v[a] != null, 1, s);
                    check(!told.isRow(v[a].step), 2, s);
                    v[a].fields[c] = hold(v[b], found.inside.get(v[a].name).get(c));
                }
                case 6 -> {
                    check(v[b] != null, 1, s);
                    check(told.isRow(v[b].step), 2, s);
                    check(c < v[b].places.length, 3, s);
                    v[a] = hold(v[b].places[c], sets.get(a));
                }
                case 7 -> {
                    check(v[a] != null, 1, s);
                    check(told.isRow(v[a].step), 2, s);
                    check(c < v[a].places.length, 3, s);
                    int rowClass = told.steps.get(v[a].step)[3];
                    check(v[b] == null || told.below(told.madeClass(v[b].step), rowClass), 4, s);
                    v[a].places[c] = hold(v[b], found.inside.get(v[a].name).get(4));
                }
                case 8 -> {
                    check(v[b] == null || told.below(told.madeClass(v[b].step), c), 5, s);
                    v[a] = hold(v[b], sets.get(a));
                }
                case 9 -> {
                    check(v[b] != null, 1, s);
                    int m = told.asked(told.madeClass(v[b].step), c);
                    check(m >= 0, 6, s);
                    check(deep < 25, 8, s);
                    v[a] = hold(method(found.asked(n, s, m, v[b].name), v[b], v[d], deep + 1), sets.get(a));
                }
                case 10 -> {
                    check(deep < 25, 8, s);
                    v[a] = hold(method(found.called(n, s, c), null, v[d], deep + 1), sets.get(a));
                }
                case 12 -> {
                    boolean bit = asked < 64 && (bits >>> asked & 1) == 1;
                    asked++;
                    return bit ? b : 0;
                }
                case 13 -> globals[c] = hold(v[a], found.globals.get(c));
                case 14 -> v[a] = hold(globals[c], sets.get(a));
                case 15 -> {
                    check(v[a] != null, 1, s);
                    throw new Raised(v[a], s);
                }
                default -> { }
            }
            return 0;
        }
    }

    static long bits(Set<Integer> set) {
        long all = 0;
        for (int m : set) {
            all |= 1L << m;
        }
        return all;
    }

    static int number(Thing thing) {
        return thing == null ? -9 : thing.number;
    }

    /** A program of random STEPS; size tells how big it is. */
    static Listed tell(Kept x, Random r, int size, int[] often) {
        Listed t = new Listed();
        int classes = r.nextInt(5);
        for (int i = 0; i < classes; i++) {
            int above = r.nextInt(t.above.size());
            due("cls(" + above + ")", x.cls(above), t.above.size());
            t.above.add(above);
        }
        int methods = 1 + r.nextInt(Math.min(11, size));
        for (int i = 0; i < methods; i++) {
            boolean isStatic = i == 0 || often == OF_BITS || r.nextInt(3) == 0;
            int cls = isStatic ? -1 : r.nextInt(t.above.size());
            int selector = r.nextInt(3);
            int want = t.methods.size();
            for (int[] m : t.methods) {
                want = !isStatic && m[0] == cls && m[1] == selector ? -1 : want;
            }
            due("method(" + cls + ", " + selector + ")", x.method(cls, selector), want);
            if (want >= 0) {
                t.methods.add(new int[] {cls, isStatic ? -1 : selector});
            }
        }
        int makers = 0;
        int want = size * (2 + r.nextInt(6));
        for (int i = 0; i < want && t.steps.size() < 90; i++) {
            int method = i < 4 ? 0 : r.nextInt(t.methods.size());
            int kind = i < 3 && r.nextInt(5) > 0 ? r.nextInt(2) : often[r.nextInt(often.length)];
            int vars = 3 + r.nextInt(4);
            int a = r.nextInt(Math.min(6, vars)), b = r.nextInt(Math.min(6, vars)), c = r.nextInt(3);
            int d = r.nextInt(Math.min(6, vars));
            int cls = r.nextInt(t.above.size());
            switch (kind) {
                case 0 -> b = cls;
                case 1 -> { b = cls; c = r.nextInt(6); }
                case 6, 7 -> c = r.nextInt(8) / (1 + r.nextInt(4));
                case 8 -> c = cls;
                case 12 -> b = 1 + r.nextInt(4);
                case 16 -> { b = 1 + r.nextInt(5); c = cls; }
                case 10 -> {
                    c = r.nextInt(t.methods.size());
                    if (t.methods.get(c)[0] >= 0) {
                        c = 0;
                    }
                    // Without this most programs would call themselves till they are too deep.
                    if (often == OF_BITS ? c <= method : c == 0 && r.nextInt(3) > 0) {
                        continue;
                    }
                }
                default -> { }
            }
            String call = "step(" + method + ", " + kind + ", " + a + ", " + b + ", " + c + ", " + d + ")";
            if (kind < 2 && makers == 55) {
                due(call, x.step(method, kind, a, b, c, d), -3);
                continue;
            }
            makers += kind < 2 ? 1 : 0;
            due(call, x.step(method, kind, a, b, c, d), t.steps.size());
            t.steps.add(new int[] {method, kind, a, b, c, d});
        }
        return t;
    }

    static void compareFound(String of, Kept x, Listed t, Found f) {
        due(of + "count(3)", x.count(3), f.nodes.size());
        due(of + "count(4)", x.count(4), f.names.size());
        due(of + "count(5)", x.count(5), f.rounds);
        for (int m = 0; m < f.names.size(); m++) {
            Name it = f.names.get(m);
            int[] want = {it.step, t.steps.get(it.step)[3], t.isRow(it.step) ? 1 : 0, it.node, f.once(it.node) ? 1 : 0};
            for (int w = 0; w < 5; w++) {
                due(of + "name(" + m + ", " + w + ")", x.name(m, w), want[w]);
                due(of + "inside(" + m + ", " + w + ")", x.inside(m, w), bits(f.inside.get(m).get(w)));
            }
            notOneSeen += 1 - want[4];
        }
        due(of + "name(names, 0)", x.name(f.names.size(), 0), -1);
        for (int n = 0; n < f.nodes.size(); n++) {
            Node it = f.nodes.get(n);
            List<Integer> k = it.context;
            int[] want = {it.method, k.size() > 0 ? k.get(0) : -9, k.size() > 1 ? k.get(1) : -9,
                f.once(n) ? 1 : 0, f.leaders(n)};
            for (int w = 0; w < 5; w++) {
                due(of + "node(" + n + ", " + w + ")", x.node(n, w), want[w]);
            }
            for (int v = 0; v < 8; v++) {
                due(of + "held(" + n + ", " + v + ")", x.held(n, v), bits(f.held.get(n).get(v)));
            }
            compareLeads(of, x, t, f, n);
        }
        for (int g = 0; g < 4; g++) {
            due(of + "global(" + g + ")", x.global(g), bits(f.globals.get(g)));
        }
    }

    static void compareLeads(String of, Kept x, Listed t, Found f, int n) {
        for (int s = 0; s < t.steps.size(); s++) {
            int kind = t.steps.get(s)[1];
            boolean isBad = kind != 9 && kind != 10 || t.steps.get(s)[0] != f.nodes.get(n).method;
            Set<Integer> to = new TreeSet<>();
            for (Edge e : f.edges) {
                if (e.node == n && e.step == s) {
                    to.add(e.target);
                }
            }
            List<Integer> line = new ArrayList<>(to);
            leadsSeen += line.size();
            for (int i = -1; i <= line.size(); i++) {
                int want = isBad ? -1 : i >= 0 && i < line.size() ? line.get(i) : -9;
                due(of + "leads(" + n + ", " + s + ", " + i + ")", x.leads(n, s, i), want);
            }
        }
    }

    static void compareRun(String of, Kept x, Listed t, Found f, Random r) {
        long bits = r.nextInt(4) == 0 ? -1L : r.nextInt(4) == 0 ? 0L : r.nextLong();
        int budget = r.nextInt(3) == 0 ? 1 + r.nextInt(40) : 300;
        Run run = new Run(t, f, bits, budget);
        String call = of + "run(" + bits + ", " + budget + ") ";
        due(call, x.run(bits, budget), run.answer);
        int[] want = {run.answer, run.begun, run.things.size(), run.holds, 0, run.deepest, run.at,
            number(run.outcome), run.asked};
        for (int w = 0; w < 9; w++) {
            due(call + "ran(" + w + ")", x.ran(w), want[w]);
        }
        due("the model's own strays", run.strays, 0);
        failuresSeen[run.answer]++;
        bits64Seen += run.asked > 64 ? 1 : 0;
        int[] many = new int[f.names.size()];
        for (Thing it : run.things) {
            many[it.name]++;
            int[] heads = {it.step, it.name, it.node, t.madeClass(it.step)};
            for (int w = 0; w < 13; w++) {
                int due = w < 4 ? heads[w] : w < 8 ? number(it.fields[w - 4])
                    : w - 8 < it.places.length ? number(it.places[w - 8]) : -9;
                due(call + "object(" + it.number + ", " + w + ")", x.object(it.number, w), due);
            }
        }
        due(call + "object(objects, 0)", x.object(run.things.size(), 0), -1);
        for (int m = 0; m < many.length; m++) {
            due(call + "many(" + m + ")", x.many(m), many[m]);
            if (x.name(m, 4) == 1 && many[m] > 1) {
                due(call + "many(" + m + ") of one that is ONE", many[m], 1);
            }
        }
    }

    static void compareWithin(String of, Kept x, Listed t, Found f, int start) {
        for (int mode = 0; mode < 3; mode++) {
            for (int depth = 0; depth < 3; depth++) {
                Found g = Found.of(t, start, mode, depth);
                int want = 1;
                for (int m = 0; m < t.methods.size(); m++) {
                    for (int v = 0; v < 6; v++) {
                        want = f.stepsHeld(m, v).containsAll(g.stepsHeld(m, v)) ? want : 0;
                    }
                }
                notWithinSeen += 1 - want;
                due(of + "within(" + mode + ", " + depth + ")", x.within(mode, depth), want);
            }
        }
    }

    /** METHOD 0 mostly, else any STATIC one. */
    static int beginning(Listed t, Random r) {
        int start = r.nextInt(3) > 0 ? 0 : r.nextInt(t.methods.size());
        return t.methods.get(start)[0] < 0 ? start : 0;
    }

    static void round(int seed) {
        Random r = new Random(seed);
        Kept x = new Kept();
        boolean isOfBits = seed % 8 == 7;
        Listed t = tell(x, r, isOfBits ? 14 : 1 + r.nextInt(14), isOfBits ? OF_BITS : USUAL);
        due("count(0)", x.count(0), t.above.size());
        due("count(1)", x.count(1), t.methods.size());
        due("count(2)", x.count(2), t.steps.size());
        for (int turn = 0; turn < 3; turn++) {
            int start = beginning(t, r);
            int mode = r.nextInt(3), depth = r.nextInt(3);
            Found f = Found.of(t, start, mode, depth);
            lessDeepSeen += f.depth < depth ? 1 : 0;
            String of = "seed " + seed + " work(" + start + ", " + mode + ", " + depth + ") ";
            due(of, x.work(start, mode, depth), f.depth);
            due(of + "ran(0)", x.ran(0), -9);
            compareFound(of, x, t, f);
            for (int i = 0; i < 4; i++) {
                compareRun(of, x, t, f, r);
            }
            if (seed % 2 == 0) {
                compareWithin(of, x, t, f, start);
                compareFound(of + "within ", x, t, f);
            }
        }
    }

    public static void main(String[] args) {
        int rounds = args.length > 1 ? Integer.parseInt(args[1]) : 1200;
        for (int seed = 0; seed < rounds; seed++) {
            round(seed);
        }
        System.out.println("failures seen: " + Arrays.toString(failuresSeen) + ", less deep: " + lessDeepSeen
            + ", not within: " + notWithinSeen + ", not ONE: " + notOneSeen + ", leads: " + leadsSeen
            + ", over 64 bits: " + bits64Seen);
        for (int failure = 0; failure < 10; failure++) {
            due("whether runs with answer " + failure + " were seen", failuresSeen[failure] > 0 ? 1 : 0, 1);
        }
        due("whether the rest was seen", Math.min(Math.min(lessDeepSeen, notWithinSeen), bits64Seen) > 0 ? 1 : 0, 1);
        end();
    }
}
