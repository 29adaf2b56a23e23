import java.util.ArrayList;
import java.util.List;

/**
 * A SiteObjects of which no object is used for more than 512 calls (what later ones answer is free): behind these a
 * new object takes its place, that is told the same.
 */
final class Kept {
    private static final int MOST = 512;

    private interface Call {
        int on(SiteObjects x);
    }

    private enum Sort { PROGRAM, WORK, RUN }

    private record Done(Sort sort, Call call) { }

    private final List<Done> done = new ArrayList<>();
    private SiteObjects x = new SiteObjects();
    private int calls = 0;

    private SiteObjects next() {
        if (calls == MOST) {
            x = new SiteObjects();
            for (Done it : done) {
                it.call.on(x);
            }
            calls = done.size();
        }
        calls++;
        return x;
    }

    /** A call that changes something, if it is not refused. */
    private int tell(Sort sort, Call call) {
        int answer = call.on(next());
        if (answer >= 0) {
            dropWhatIsReplaced(sort);
            done.add(new Done(sort, call));
        }
        return answer;
    }

    /** A work() replaces those right ahead of it and their runs, a run those right ahead of it. */
    private void dropWhatIsReplaced(Sort sort) {
        while (sort != Sort.PROGRAM && !done.isEmpty() && done.get(done.size() - 1).sort.compareTo(sort) >= 0) {
            done.remove(done.size() - 1);
        }
    }

    int cls(int above) {
        return tell(Sort.PROGRAM, y -> y.cls(above));
    }

    int method(int cls, int selector) {
        return tell(Sort.PROGRAM, y -> y.method(cls, selector));
    }

    int step(int method, int kind, int a, int b, int c, int d) {
        return tell(Sort.PROGRAM, y -> y.step(method, kind, a, b, c, d));
    }

    int work(int method, int mode, int depth) {
        return tell(Sort.WORK, y -> y.work(method, mode, depth));
    }

    int run(long bits, int steps) {
        return tell(Sort.RUN, y -> y.run(bits, steps));
    }

    int name(int name, int what) {
        return next().name(name, what);
    }

    int node(int node, int what) {
        return next().node(node, what);
    }

    long held(int node, int var) {
        return next().held(node, var);
    }

    long inside(int name, int field) {
        return next().inside(name, field);
    }

    long global(int global) {
        return next().global(global);
    }

    int leads(int node, int step, int i) {
        return next().leads(node, step, i);
    }

    int ran(int what) {
        return next().ran(what);
    }

    int object(int i, int what) {
        return next().object(i, what);
    }

    int many(int name) {
        return next().many(name);
    }

    int count(int what) {
        return next().count(what);
    }

    int within(int mode, int depth) {
        return next().within(mode, depth);
    }
}
