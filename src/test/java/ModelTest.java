/**
 * Long runs of calls on a desk and on the model beside it: each answer must be the same. Each run
 * keeps to one manner of work, or to all by turns, and then looks over a part of what there is, up
 * to the 512th call.
 */
public final class ModelTest {
    private static final int CALLS_BEFORE_LOOKING_OVER = 240;
    private static final int RUNS = 6000;

    private static final Expect expect = new Expect("ModelTest");

    private final int run;
    private final Dice dice;
    private final Pair pair;

    private ModelTest(int run) {
        this.run = run;
        dice = new Dice(77L + run);
        pair = new Pair(expect, "run " + run);
    }

    public static void main(String[] args) {
        for (int run = 0; run < RUNS; run++) {
            new ModelTest(run).goOn();
        }
        expect.finish();
    }

    private void goOn() {
        int manner = run % 6;
        while (pair.calls() < CALLS_BEFORE_LOOKING_OVER) {
            switch (manner == 5 ? dice.below(5) : manner) {
                case 0:
                    drawAndSplit();
                    break;
                case 1:
                    drawRing();
                    break;
                case 2:
                    layOut();
                    break;
                case 3:
                    makeFile();
                    break;
                default:
                    speckle();
                    break;
            }
        }
        lookOver();
    }

    private void drawAndSplit() {
        for (int i = dice.below(7); i >= 0; i--) {
            pair.rect(dice.below(2), dice.from(0, 15), dice.from(0, 15), dice.from(1, 9), dice.from(1, 9));
        }
        pair.rect(dice.about(0, 5), dice.about(0, 15), dice.about(0, 15), dice.about(1, 8), dice.about(1, 8));
        pair.join(dice.about(0, 5), dice.about(0, 5), dice.about(0, 5), dice.about(0, 3));
        pair.join(dice.below(3), 0, 1, dice.from(1, 3));
        pair.size(dice.about(0, 5), dice.about(0, 5), dice.oneIn(3) ? dice.about(-8, 8) : dice.from(-1, 1));
        look(dice.below(3));
        pair.filled(dice.about(0, 5), dice.about(0, 15), dice.about(0, 15));
        if (dice.oneIn(4)) {
            pair.join(dice.below(3), 0, 0, 3);
        }
    }

    private void drawRing() {
        boolean level = dice.oneIn(2);
        int x = dice.about(0, 16);
        int y = dice.about(0, 16);
        int startX = x;
        int startY = y;
        int n = 2 * dice.from(1, 12) + (dice.oneIn(12) ? 1 : 0);
        for (int i = 0; i < n; i++) {
            if (dice.oneIn(150)) {
                level = !level;
            }
            // The last but one goes to the first one's x or y, so that the last closes the ring.
            boolean back = i == n - 2 || i == n - 1;
            int toX = dice.about(0, 16);
            int toY = dice.about(0, 16);
            pair.point(x, y);
            if (level) {
                x = back ? startX : toX;
            } else {
                y = back ? startY : toY;
            }
            level = !level;
        }
        if (dice.oneIn(30)) {
            for (int i = 0; i < 26; i++) {
                pair.point(i % 4 / 2 * 5, (i + 1) % 4 / 2 * 5);
            }
        }
        int s = dice.about(0, 5);
        pair.ring(s);
        look(s);
        if (dice.oneIn(2)) {
            pair.join(s, s, s, 3);
        }
    }

    private void layOut() {
        if (dice.oneIn(12)) {
            pair.clear(dice.about(0, 5));
        }
        for (int i = dice.from(1, 2); i > 0; i--) {
            boxOne();
        }
        for (int i = dice.below(3); i > 0; i--) {
            placeOne();
        }
        for (int i = 0; i < 3; i++) {
            int s = dice.about(0, 5);
            pair.expand(s, dice.about(0, 5), mostly(5, 10, 32), mostly(5, 10, 32));
            look(s);
        }
        if (dice.oneIn(3)) {
            pair.join(dice.below(6), 5, 5, 3);
        }
    }

    /** Within these bounds, but now and then as far off as may be. */
    private int mostly(int low, int high, int most) {
        return dice.oneIn(25) ? dice.about(-most, most) : dice.from(low, high);
    }

    private int side() {
        return dice.oneIn(25) ? dice.about(1, 16) : dice.from(1, 2);
    }

    private void boxOne() {
        int c = dice.oneIn(3) ? dice.about(0, 5) : 0;
        pair.box(c, mostly(-2, 1, 16), mostly(-2, 1, 16), side(), side());
    }

    private void placeOne() {
        pair.at(mostly(-2, 2, 16), mostly(-2, 2, 16), dice.about(0, 7));
        pair.steps(mostly(-2, 2, 16), mostly(-2, 2, 16));
        int c = dice.about(0, 5);
        int d = dice.oneIn(3) ? dice.about(0, 5) : dice.below(Math.max(1, Math.min(c, 5)));
        int n = dice.oneIn(3) ? dice.about(1, 4) : 1;
        int m = dice.oneIn(3) ? dice.about(1, 4) : 1;
        pair.place(c, d, n, m);
    }

    /** A file that is right, but for a byte here and there. */
    private void makeFile() {
        if (dice.oneIn(6)) {
            fillUp();
        }
        int spoil = dice.oneIn(2) ? 1000 : dice.from(8, 30);
        for (int groups = dice.below(3); groups > 0; groups--) {
            int w = dice.from(1, 6);
            int h = dice.from(1, 6);
            int lines = dice.from(1, 3);
            put(w, spoil);
            put(h, spoil);
            put(lines, spoil);
            for (int i = 0; i < lines; i++) {
                putLine(w, h, spoil);
            }
        }
        if (!dice.oneIn(5)) {
            put(0, spoil);
        }
        pair.byteAt(dice.about(-1, 12));
        int s = dice.about(0, 5);
        pair.read(s);
        look(s);
    }

    private void putLine(int w, int h, int spoil) {
        int x = dice.from(0, 16 - w);
        int y = dice.from(0, 16 - h);
        int count = dice.oneIn(3) ? 1 : dice.oneIn(5) ? dice.from(1, 255) : dice.from(2, 4);
        put(x, spoil);
        put(y, spoil);
        put(count, spoil);
        if (count > 1) {
            put(step(x, w, count), spoil);
            put(step(y, h, count), spoil);
        }
    }

    /** A step that stays on the plate, or now and then is one too far. */
    private int step(int first, int length, int count) {
        int most = (16 - length - first) / (count - 1);
        int least = -(first / (count - 1));
        return dice.from(least, most + (dice.oneIn(12) ? 1 : 0)) & 255;
    }

    private void put(int b, int spoil) {
        pair.put(dice.oneIn(spoil) ? dice.about(0, 255) : b);
    }

    private void fillUp() {
        if (pair.calls() > 60) {
            return;
        }
        for (int i = 0; i < 300; i++) {
            pair.put(i < 3 || i % 3 == 2 ? 1 : dice.below(16));
        }
    }

    /** Single cells: many corners, islands and holes, sometimes more chords than can be chosen. */
    private void speckle() {
        int s = dice.below(2);
        for (int i = dice.below(25); i > 0; i--) {
            pair.rect(s, dice.below(16), dice.below(16), 1, dice.oneIn(4) ? 2 : 1);
        }
        if (dice.oneIn(3)) {
            pair.rect(2, 0, 0, 16, 16);
            pair.join(2, 2, s, 2);
            look(2);
        }
        look(s);
    }

    private void look(int s) {
        pair.measure(s, dice.about(0, 4));
        pair.check(s, dice.about(0, 1), dice.about(1, 16));
        pair.split(s);
        for (int i = 0; i < 3; i++) {
            pair.item(dice.about(0, 1), dice.about(0, 12), dice.about(0, 3));
        }
        if (dice.oneIn(3)) {
            pair.write();
            pair.byteAt(dice.about(-1, 30));
            if (dice.oneIn(2)) {
                pair.read(dice.about(0, 5));
            }
        }
    }

    /** Spends the calls that are left on one part of what there is, by turns. */
    private void lookOver() {
        int what = run / 6 % 4;
        int first = dice.below(6);
        for (int i = 0; pair.callsLeft() > 0; i++) {
            if (what == 0) {
                pair.filled((first + i / 256) % 6, i % 16, i / 16 % 16);
            } else if (what == 3) {
                pair.byteAt(i - 1);
            } else {
                pair.item(what - 1, i / 4, i % 4);
            }
        }
    }
}
