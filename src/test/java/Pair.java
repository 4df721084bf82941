/**
 * A new desk and the model beside it: each call is made on both, and the answers must be the same.
 * What a call answers here is what is due. No pair makes more calls than an object is used for.
 */
final class Pair {
    static final int CALLS = 512;

    private final Expect expect;
    private final String run;
    private final MaskDesk desk = new MaskDesk();
    private final Model model = new Model();
    private int calls;

    Pair(Expect expect, String run) {
        this.expect = expect;
        this.run = run;
    }

    int calls() {
        return calls;
    }

    int callsLeft() {
        return CALLS - calls;
    }

    private int same(int got, int want, String name, int... a) {
        calls++;
        if (calls > CALLS) {
            throw new IllegalStateException(run + " has too many calls");
        }
        // The text is made only where it is told: there are millions of calls.
        expect.due(got == want ? run : tell(name, a), got, want);
        return want;
    }

    private boolean same(boolean got, boolean want, String name, int... a) {
        return same(got ? 1 : 0, want ? 1 : 0, name, a) == 1;
    }

    private String tell(String name, int[] a) {
        StringBuilder text = new StringBuilder();
        text.append(run).append(", call ").append(calls).append(": ").append(name).append('(');
        for (int i = 0; i < a.length; i++) {
            text.append(i == 0 ? "" : ", ").append(a[i]);
        }
        return text.append(')').toString();
    }

    boolean rect(int s, int x, int y, int w, int h) {
        return same(desk.rect(s, x, y, w, h), model.rect(s, x, y, w, h), "rect", s, x, y, w, h);
    }

    boolean point(int x, int y) {
        return same(desk.point(x, y), model.point(x, y), "point", x, y);
    }

    boolean ring(int s) {
        return same(desk.ring(s), model.ring(s), "ring", s);
    }

    boolean join(int t, int a, int b, int kind) {
        return same(desk.join(t, a, b, kind), model.join(t, a, b, kind), "join", t, a, b, kind);
    }

    boolean size(int t, int a, int r) {
        return same(desk.size(t, a, r), model.size(t, a, r), "size", t, a, r);
    }

    boolean box(int c, int x, int y, int w, int h) {
        return same(desk.box(c, x, y, w, h), model.box(c, x, y, w, h), "box", c, x, y, w, h);
    }

    boolean at(int x, int y, int turn) {
        return same(desk.at(x, y, turn), model.at(x, y, turn), "at", x, y, turn);
    }

    boolean steps(int dx, int dy) {
        return same(desk.steps(dx, dy), model.steps(dx, dy), "steps", dx, dy);
    }

    boolean place(int c, int d, int n, int m) {
        return same(desk.place(c, d, n, m), model.place(c, d, n, m), "place", c, d, n, m);
    }

    boolean clear(int c) {
        return same(desk.clear(c), model.clear(c), "clear", c);
    }

    int expand(int s, int c, int x, int y) {
        return same(desk.expand(s, c, x, y), model.expand(s, c, x, y), "expand", s, c, x, y);
    }

    boolean filled(int s, int x, int y) {
        return same(desk.filled(s, x, y), model.filled(s, x, y), "filled", s, x, y);
    }

    int measure(int s, int what) {
        return same(desk.measure(s, what), model.measure(s, what), "measure", s, what);
    }

    int check(int s, int kind, int w) {
        return same(desk.check(s, kind, w), model.check(s, kind, w), "check", s, kind, w);
    }

    int split(int s) {
        return same(desk.split(s), model.split(s), "split", s);
    }

    int item(int list, int i, int field) {
        return same(desk.item(list, i, field), model.item(list, i, field), "item", list, i, field);
    }

    int write() {
        return same(desk.write(), model.write(), "write");
    }

    boolean put(int b) {
        return same(desk.put(b), model.put(b), "put", b);
    }

    int byteAt(int i) {
        return same(desk.byteAt(i), model.byteAt(i), "byteAt", i);
    }

    int read(int s) {
        return same(desk.read(s), model.read(s), "read", s);
    }
}
