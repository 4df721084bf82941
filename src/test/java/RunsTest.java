import java.util.ArrayDeque;
import java.util.Deque;
import java.util.stream.IntStream;

/**
 * Runs of calls of all kinds on one object, up to the 512th: each answer is compared with that of
 * the model. A ring and a file come point by point and byte by byte among all other calls, so what
 * one call keeps must outlast the others. The last call of a run is of each kind by turns.
 */
public final class RunsTest {
    private static final int RUNS = 3000;

    // The kinds of calls, in the order of the face.
    private static final int RECT = 0;
    private static final int POINT = 1;
    private static final int RING = 2;
    private static final int JOIN = 3;
    private static final int SIZE = 4;
    private static final int BOX = 5;
    private static final int AT = 6;
    private static final int STEPS = 7;
    private static final int PLACE = 8;
    private static final int CLEAR = 9;
    private static final int EXPAND = 10;
    private static final int FILLED = 11;
    private static final int MEASURE = 12;
    private static final int CHECK = 13;
    private static final int SPLIT = 14;
    private static final int ITEM = 15;
    private static final int WRITE = 16;
    private static final int PUT = 17;
    private static final int BYTE_AT = 18;
    private static final int READ = 19;

    /** How often each kind comes, in their order: a ring and a file take many. */
    private static final int[] WEIGHTS = {34, 56, 1, 16, 12, 14, 10, 8, 14, 6, 24, 36, 20, 12, 20, 36, 5, 56, 20, 1};
    private static final int TOTAL_WEIGHT = IntStream.of(WEIGHTS).sum();

    private static final String[] NAMES = {
        "rect", "point", "ring", "join", "size", "box", "at", "steps", "place", "clear", "expand", "filled",
        "measure", "check", "split", "item", "write", "put", "byteAt", "read",
    };

    private static final Expect expect = new Expect("RunsTest");

    // Over all runs: calls that did as they were asked, and calls that did not.
    private static final int[] taken = new int[NAMES.length];
    private static final int[] refused = new int[NAMES.length];

    private final int run;
    private final Dice dice;
    private final Pair pair;
    private final Deque<int[]> pointsToCome = new ArrayDeque<>();
    private final Deque<Integer> bytesToCome = new ArrayDeque<>();
    private boolean ringIsDue;
    private boolean readIsDue;

    private RunsTest(int run) {
        this.run = run;
        dice = new Dice(5000L + run);
        pair = new Pair(expect, "run " + run);
    }

    public static void main(String[] args) {
        for (int run = 0; run < RUNS; run++) {
            new RunsTest(run).goOn();
        }
        for (int kind = 0; kind < NAMES.length; kind++) {
            expect.yes(NAMES[kind] + " was taken, " + taken[kind] + " times", taken[kind] > RUNS);
            // No calls lead to pieces that cannot be written: FileTest says why.
            expect.yes(NAMES[kind] + " was refused, " + refused[kind] + " times", kind == WRITE || refused[kind] > 100);
        }
        expect.finish();
    }

    private void goOn() {
        while (pair.callsLeft() > NAMES.length) {
            callOne(anyKind());
        }
        // Each kind once more, the last one another one in each run.
        for (int i = 1; i <= NAMES.length; i++) {
            callOne((run + i) % NAMES.length);
        }
        expect.due("run " + run + ": calls", pair.calls(), Pair.CALLS);
    }

    /** A ring whose points have all come is due, and so is a file; what comes else would spoil it. */
    private int anyKind() {
        int rest = dice.below(TOTAL_WEIGHT);
        int kind = 0;
        while (rest >= WEIGHTS[kind]) {
            rest -= WEIGHTS[kind];
            kind++;
        }
        if (kind == POINT && ringIsDue) {
            return RING;
        }
        return kind == PUT && readIsDue ? READ : kind;
    }

    private void callOne(int kind) {
        boolean done = kind < BOX ? drawOne(kind) : kind < FILLED ? layOutOne(kind) : askOne(kind);
        if (done) {
            taken[kind]++;
        } else {
            refused[kind]++;
        }
    }

    private boolean drawOne(int kind) {
        switch (kind) {
            case RECT:
                return drawRectangle();
            case POINT:
                return drawPoint();
            case RING:
                pointsToCome.clear();
                ringIsDue = false;
                return pair.ring(shape());
            case JOIN:
                return pair.join(shape(), shape(), shape(), dice.about(0, 3));
            case SIZE:
            default:
                return pair.size(shape(), shape(), dice.oneIn(4) ? dice.about(-8, 8) : dice.from(-1, 1));
        }
    }

    private boolean layOutOne(int kind) {
        switch (kind) {
            case BOX:
                return pair.box(dice.oneIn(2) ? 0 : part(), near(2, 16), near(2, 16), side(), side());
            case AT:
                return pair.at(near(3, 16), near(3, 16), dice.about(0, 7));
            case STEPS:
                return pair.steps(dice.oneIn(8) ? dice.about(-16, 16) : near(2, 16), near(2, 16));
            case PLACE:
                int c = part();
                int below = dice.below(Math.max(1, Math.min(c, 5)));
                return pair.place(c, dice.oneIn(6) ? part() : below, copies(), copies());
            case CLEAR:
                return pair.clear(part());
            case EXPAND:
            default:
                return pair.expand(shape(), part(), 8 + near(4, 24), 8 + near(4, 24)) != MaskDesk.NONE;
        }
    }

    private boolean askOne(int kind) {
        switch (kind) {
            case FILLED:
                return pair.filled(shape(), dice.about(0, 15), dice.about(0, 15));
            case MEASURE:
                return pair.measure(shape(), dice.about(0, 4)) != MaskDesk.NONE;
            case CHECK:
                return pair.check(shape(), dice.about(0, 1), dice.about(1, 16)) != MaskDesk.NONE;
            case SPLIT:
                return pair.split(shape()) != MaskDesk.NONE;
            case ITEM:
                return pair.item(dice.about(0, 1), dice.about(0, dice.oneIn(3) ? 60 : 6), dice.about(0, 3)) != MaskDesk.NONE;
            case WRITE:
                bytesToCome.clear();
                readIsDue = dice.oneIn(2);
                return pair.write() != MaskDesk.NONE;
            case PUT:
                return putNext();
            case BYTE_AT:
                return pair.byteAt(dice.about(-1, dice.oneIn(3) ? 80 : 12)) != MaskDesk.NONE;
            case READ:
            default:
                bytesToCome.clear();
                readIsDue = false;
                return pair.read(shape()) >= 0;
        }
    }

    private int shape() {
        return dice.about(0, 5);
    }

    private int part() {
        return dice.about(0, 5);
    }

    /** Near 0, but now and then as far off as may be. */
    private int near(int usual, int most) {
        return dice.oneIn(25) ? dice.about(-most, most) : dice.from(-usual, usual);
    }

    private int side() {
        return dice.oneIn(25) ? dice.about(1, 16) : dice.from(1, 3);
    }

    private int copies() {
        return dice.oneIn(2) ? 1 : dice.about(1, 4);
    }

    /** Sometimes over all of a shape, so that holes come behind it, and sometimes one cell. */
    private boolean drawRectangle() {
        int s = shape();
        if (dice.oneIn(30)) {
            return pair.rect(s, 0, 0, 16, 16);
        }
        int most = dice.oneIn(3) ? 1 : 7;
        return pair.rect(s, dice.about(0, 16 - most), dice.about(0, 16 - most), dice.about(1, most), dice.about(1, most));
    }

    private boolean drawPoint() {
        if (dice.oneIn(100)) {
            return pair.point(dice.about(0, 16), dice.about(0, 16));
        }
        if (pointsToCome.isEmpty()) {
            planRing();
        }
        int[] point = pointsToCome.remove();
        ringIsDue = pointsToCome.isEmpty();
        return pair.point(point[0], point[1]);
    }

    /** A ring of 4 to 24 points, or one of 26, of which the last two find no room. */
    private void planRing() {
        int n = 2 * dice.from(2, 13);
        boolean level = dice.oneIn(2);
        int[] first = {dice.from(0, 16), dice.from(0, 16)};
        int[] point = first;
        for (int i = 0; i < n; i++) {
            pointsToCome.add(point);
            // The last but one goes to where the last one closes the ring.
            boolean back = i == n - 2;
            int x = level ? other(point[0], back ? first[0] : dice.from(0, 16)) : point[0];
            int y = level ? point[1] : other(point[1], back ? first[1] : dice.from(0, 16));
            point = new int[] {x, y};
            level = !level;
        }
    }

    /** A ring goes on at each point, but now and then one is drawn twice. */
    private int other(int now, int next) {
        return next != now || dice.oneIn(20) ? next : (now + 5) % 17;
    }

    private boolean putNext() {
        if (dice.oneIn(60)) {
            return pair.put(dice.about(0, 255));
        }
        if (bytesToCome.isEmpty()) {
            planFile();
        }
        int b = bytesToCome.remove();
        readIsDue = bytesToCome.isEmpty();
        return pair.put(b);
    }

    private void planFile() {
        for (int groups = dice.below(4); groups > 0; groups--) {
            int w = dice.from(1, 8);
            int h = dice.from(1, 8);
            int lines = dice.from(1, 3);
            bytesToCome.add(w);
            bytesToCome.add(h);
            bytesToCome.add(lines);
            for (int i = 0; i < lines; i++) {
                planLine(w, h);
            }
        }
        bytesToCome.add(dice.oneIn(10) ? dice.about(0, 255) : 0);
    }

    private void planLine(int w, int h) {
        int x = dice.from(0, 16 - w);
        int y = dice.from(0, 16 - h);
        int count = dice.oneIn(3) ? 1 : dice.oneIn(8) ? dice.from(2, 255) : dice.from(2, 5);
        bytesToCome.add(x);
        bytesToCome.add(y);
        bytesToCome.add(count);
        if (count > 1) {
            bytesToCome.add(step(x, w, count));
            bytesToCome.add(step(y, h, count));
        }
    }

    /** A step that stays on the plate, or now and then is one too far. */
    private int step(int first, int length, int count) {
        int most = (16 - length - first) / (count - 1);
        int least = -(first / (count - 1));
        return dice.from(least, most + (dice.oneIn(25) ? 1 : 0)) & 255;
    }
}
