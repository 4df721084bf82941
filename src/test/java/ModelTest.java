/**
 * Long runs of calls, made up from a fixed seed, on a desk and on the model beside it: each answer
 * must be the same. Runs keep to the 512 calls of the document.
 */
public final class ModelTest {
    private static final int CALLS = 512;
    private static final int CALLS_BEFORE_COMPARING = 240;
    private static final int RUNS = 6000;

    private static final Expect expect = new Expect("ModelTest");

    private long seed = 1;
    private MaskDesk desk;
    private Model model;
    private int run;
    private int calls;

    public static void main(String[] args) {
        ModelTest test = new ModelTest();
        for (int run = 0; run < RUNS; run++) {
            test.start(run);
            test.goOn();
        }
        expect.finish();
    }

    private void start(int number) {
        run = number;
        seed = 77L + number;
        desk = new MaskDesk();
        model = new Model();
        calls = 0;
    }

    /** Knuth's multiplier: the upper bits are good enough here, and the same on every machine. */
    private int below(int n) {
        seed = seed * 6364136223846793005L + 1442695040888963407L;
        return (int) ((seed >>> 33) % n);
    }

    private int from(int low, int high) {
        return low + below(high - low + 1);
    }

    /** Mostly within the bounds, now and then at them, beside them or far away. */
    private int about(int low, int high) {
        switch (below(60)) {
            case 0:
                return low - 1;
            case 1:
                return high + 1;
            case 2:
                return below(2) == 0 ? low : high;
            case 3:
                int[] far = {Integer.MIN_VALUE, Integer.MAX_VALUE, -1000, 1 << 16};
                return below(8) == 0 ? far[below(4)] : from(low, high);
            default:
                return from(low, high);
        }
    }

    private void same(String call, long got, long want) {
        calls++;
        if (calls > CALLS) {
            throw new IllegalStateException("run " + run + " has too many calls");
        }
        expect.due("run " + run + ", call " + calls + ": " + call, got, want);
    }

    private void same(String call, boolean got, boolean want) {
        same(call, got ? 1 : 0, want ? 1 : 0);
    }

    private void goOn() {
        int manner = run % 6;
        while (calls < CALLS_BEFORE_COMPARING) {
            switch (manner == 5 ? below(5) : manner) {
                case 0:
                    drawAndSplit();
                    break;
                case 1:
                    drawRing();
                    break;
                case 2:
                    layOut();
                    break;
                case 3:
                    makeFile();
                    break;
                default:
                    speckle();
                    break;
            }
        }
        compareState();
    }

    private void drawAndSplit() {
        for (int i = below(7); i >= 0; i--) {
            rect(below(2), from(0, 15), from(0, 15), from(1, 9), from(1, 9));
        }
        rect(about(0, 5), about(0, 15), about(0, 15), about(1, 8), about(1, 8));
        join(about(0, 5), about(0, 5), about(0, 5), about(0, 3));
        join(below(3), 0, 1, from(1, 3));
        size(about(0, 5), about(0, 5), below(3) == 0 ? about(-8, 8) : from(-1, 1));
        look(below(3));
        filled();
        if (below(4) == 0) {
            join(below(3), 0, 0, 3);
        }
    }

    private void drawRing() {
        boolean level = below(2) == 0;
        int x = about(0, 16);
        int y = about(0, 16);
        int startX = x;
        int startY = y;
        int n = 2 * from(1, 12) + (below(12) == 0 ? 1 : 0);
        for (int i = 0; i < n; i++) {
            if (below(150) == 0) {
                level = !level;
            }
            boolean beforeLast = i == n - 1;
            int toX = beforeLast ? startX : about(0, 16);
            int toY = beforeLast ? startY : about(0, 16);
            point(x, y);
            if (level) {
                x = i == n - 2 && !beforeLast ? startX : toX;
            } else {
                y = i == n - 2 && !beforeLast ? startY : toY;
            }
            level = !level;
        }
        if (below(30) == 0) {
            for (int i = 0; i < 26; i++) {
                point(i % 4 / 2 * 5, (i + 1) % 4 / 2 * 5);
            }
        }
        int s = about(0, 5);
        same("ring(" + s + ")", desk.ring(s), model.ring(s));
        look(s);
        if (below(2) == 0) {
            join(s, s, s, 3);
        }
    }

    private void layOut() {
        if (below(12) == 0) {
            int c = about(0, 5);
            same("clear(" + c + ")", desk.clear(c), model.clear(c));
        }
        for (int i = from(1, 2); i > 0; i--) {
            boxOne();
        }
        for (int i = below(3); i > 0; i--) {
            placeOne();
        }
        for (int i = 0; i < 3; i++) {
            int s = about(0, 5);
            int c = about(0, 5);
            int x = rarely() ? about(-32, 32) : from(5, 10);
            int y = rarely() ? about(-32, 32) : from(5, 10);
            same("expand(" + s + ", " + c + ", " + x + ", " + y + ")",
                desk.expand(s, c, x, y), model.expand(s, c, x, y));
            look(s);
        }
        if (below(3) == 0) {
            join(below(6), 5, 5, 3);
        }
    }

    private boolean rarely() {
        return below(25) == 0;
    }

    private void boxOne() {
        int c = below(3) == 0 ? about(0, 5) : 0;
        int x = rarely() ? about(-16, 16) : from(-2, 1);
        int y = rarely() ? about(-16, 16) : from(-2, 1);
        int w = rarely() ? about(1, 16) : from(1, 2);
        int h = rarely() ? about(1, 16) : from(1, 2);
        same("box(" + c + ", " + x + ", " + y + ", " + w + ", " + h + ")",
            desk.box(c, x, y, w, h), model.box(c, x, y, w, h));
    }

    private void placeOne() {
        int x = rarely() ? about(-16, 16) : from(-2, 2);
        int y = rarely() ? about(-16, 16) : from(-2, 2);
        int turn = about(0, 7);
        same("at(" + x + ", " + y + ", " + turn + ")", desk.at(x, y, turn), model.at(x, y, turn));
        int dx = rarely() ? about(-16, 16) : from(-2, 2);
        int dy = rarely() ? about(-16, 16) : from(-2, 2);
        same("steps(" + dx + ", " + dy + ")", desk.steps(dx, dy), model.steps(dx, dy));
        int c = about(0, 5);
        int d = below(3) == 0 ? about(0, 5) : below(Math.max(1, Math.min(c, 5)));
        int n = below(3) == 0 ? about(1, 4) : 1;
        int m = below(3) == 0 ? about(1, 4) : 1;
        same("place(" + c + ", " + d + ", " + n + ", " + m + ")",
            desk.place(c, d, n, m), model.place(c, d, n, m));
    }

    /** A file that is right, but for a byte here and there. */
    private void makeFile() {
        if (below(6) == 0) {
            fillUp();
        }
        int spoil = below(2) == 0 ? 1000 : from(8, 30);
        for (int groups = below(3); groups > 0; groups--) {
            int w = from(1, 6);
            int h = from(1, 6);
            int lines = from(1, 3);
            put(w, spoil);
            put(h, spoil);
            put(lines, spoil);
            for (int i = 0; i < lines; i++) {
                putLine(w, h, spoil);
            }
        }
        if (below(5) != 0) {
            put(0, spoil);
        }
        int i = about(-1, 12);
        same("byteAt(" + i + ")", desk.byteAt(i), model.byteAt(i));
        int s = about(0, 5);
        same("read(" + s + ")", desk.read(s), model.read(s));
        look(s);
    }

    private void putLine(int w, int h, int spoil) {
        int x = from(0, 16 - w);
        int y = from(0, 16 - h);
        int count = below(3) == 0 ? 1 : below(5) == 0 ? from(1, 255) : from(2, 4);
        put(x, spoil);
        put(y, spoil);
        put(count, spoil);
        if (count > 1) {
            put(step(x, w, count), spoil);
            put(step(y, h, count), spoil);
        }
    }

    /** A step that stays on the plate, or now and then is one too far. */
    private int step(int first, int length, int count) {
        int most = (16 - length - first) / (count - 1);
        int least = -(first / (count - 1));
        return from(least, most + (below(12) == 0 ? 1 : 0)) & 255;
    }

    private void fillUp() {
        if (calls > 60) {
            return;
        }
        for (int i = 0; i < 300; i++) {
            put(i < 3 ? 1 : i % 3 == 2 ? 1 : below(16), 2000);
        }
    }

    /** Single cells: many corners, islands and holes, sometimes more chords than can be chosen. */
    private void speckle() {
        int s = below(2);
        for (int i = below(25); i > 0; i--) {
            rect(s, below(16), below(16), 1, below(4) == 0 ? 2 : 1);
        }
        if (below(3) == 0) {
            rect(2, 0, 0, 16, 16);
            join(2, 2, s, 2);
            look(2);
        }
        look(s);
    }

    private void rect(int s, int x, int y, int w, int h) {
        same("rect(" + s + ", " + x + ", " + y + ", " + w + ", " + h + ")",
            desk.rect(s, x, y, w, h), model.rect(s, x, y, w, h));
    }

    private void filled() {
        int s = about(0, 5);
        int x = about(0, 15);
        int y = about(0, 15);
        same("filled(" + s + ", " + x + ", " + y + ")", desk.filled(s, x, y), model.filled(s, x, y));
    }

    private void point(int x, int y) {
        same("point(" + x + ", " + y + ")", desk.point(x, y), model.point(x, y));
    }

    private void join(int t, int a, int b, int kind) {
        same("join(" + t + ", " + a + ", " + b + ", " + kind + ")",
            desk.join(t, a, b, kind), model.join(t, a, b, kind));
    }

    private void size(int t, int a, int r) {
        same("size(" + t + ", " + a + ", " + r + ")", desk.size(t, a, r), model.size(t, a, r));
    }

    private void put(int b, int spoil) {
        int value = below(spoil) == 0 ? about(0, 255) : b;
        same("put(" + value + ")", desk.put(value), model.put(value));
    }

    private void look(int s) {
        int what = about(0, 4);
        same("measure(" + s + ", " + what + ")", desk.measure(s, what), model.measure(s, what));
        int kind = about(0, 1);
        int w = about(1, 16);
        same("check(" + s + ", " + kind + ", " + w + ")", desk.check(s, kind, w), model.check(s, kind, w));
        same("split(" + s + ")", desk.split(s), model.split(s));
        for (int i = 0; i < 3; i++) {
            int list = about(0, 1);
            int which = about(0, 12);
            int field = about(0, 3);
            same("item(" + list + ", " + which + ", " + field + ")",
                desk.item(list, which, field), model.item(list, which, field));
        }
        if (below(3) == 0) {
            same("write()", desk.write(), model.write());
            int i = about(-1, 30);
            same("byteAt(" + i + ")", desk.byteAt(i), model.byteAt(i));
            if (below(2) == 0) {
                int t = about(0, 5);
                same("read(" + t + ")", desk.read(t), model.read(t));
            }
        }
    }

    /** Spends the calls that are left on one part of the state, by turns. */
    private void compareState() {
        int what = run / 6 % 4;
        int first = below(6);
        for (int i = 0; calls < CALLS; i++) {
            if (what == 0) {
                int s = (first + i / 256) % 6;
                int x = i % 16;
                int y = i / 16 % 16;
                same("filled(" + s + ", " + x + ", " + y + ")", desk.filled(s, x, y), model.filled(s, x, y));
            } else if (what == 3) {
                same("byteAt(" + (i - 1) + ")", desk.byteAt(i - 1), model.byteAt(i - 1));
            } else {
                same("item(" + (what - 1) + ", " + i / 4 + ", " + i % 4 + ")",
                    desk.item(what - 1, i / 4, i % 4), model.item(what - 1, i / 4, i % 4));
            }
        }
    }
}
