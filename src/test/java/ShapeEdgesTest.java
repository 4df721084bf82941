/** The boundary cases of promises 1 to 6 and 13, and of the terms that they use: one test a sentence. */
public final class ShapeEdgesTest {
    private static final Expect expect = new Expect("ShapeEdgesTest");
    private static final Refusals refusals = Refusals.onBusyDesk(expect);

    public static void main(String[] args) {
        newShapesAreEmpty();
        newHasNoPieces();
        newHasNoFaults();
        newHasNoBytes();
        newHasNoPoints();
        newPartsHaveNothing();
        newObjectsShareNothing();
        rectBounds();
        rectOffThePlate();
        rectFarOff();
        rectOnAFullShape();
        pointBounds();
        pointTwentyFive();
        ringOfNoPoint();
        ringsOfFewPoints();
        ringsOfEachLength();
        ringFromTheLastToTheFirst();
        ringByTurns();
        ringInNoShape();
        ringLeavesNoPoints();
        ringInsideNothing();
        ringAtTheRim();
        ringBesideItsEdges();
        joinBounds();
        joinOfEachThree();
        sizeBounds();
        sizeEachWay();
        grownPastTheRim();
        shrunkFromTheRim();
        sizeOfEmptyAndFull();
        filledBounds();
        expect.finish();
    }

    // Promise 1: "no pieces, no faults, no bytes, no points either"; shapes are "empty at first".

    private static void newShapesAreEmpty() {
        for (int s = 0; s < 6; s++) {
            expect.shape("new", new MaskDesk(), s);
        }
    }

    private static void newHasNoPieces() {
        MaskDesk desk = new MaskDesk();
        for (int i : new int[] {0, 1, 127, 255}) {
            for (int field = 0; field < 4; field++) {
                expect.none("new: item(0, " + i + ", " + field + ")", desk.item(0, i, field));
            }
        }
        expect.due("new: write()", desk.write(), 1);
        expect.bytes("new: write()", desk, 0);
    }

    private static void newHasNoFaults() {
        MaskDesk desk = new MaskDesk();
        for (int i : new int[] {0, 1, 127, 255}) {
            for (int field = 0; field < 4; field++) {
                expect.none("new: item(1, " + i + ", " + field + ")", desk.item(1, i, field));
            }
        }
    }

    private static void newHasNoBytes() {
        MaskDesk desk = new MaskDesk();
        expect.due("new: byteAt(-1)", desk.byteAt(-1), 0);
        expect.none("new: byteAt(0)", desk.byteAt(0));
        expect.none("new: byteAt(399)", desk.byteAt(399));
        expect.due("new: read(0)", desk.read(0), -1);
        desk = new MaskDesk();
        for (int i = 0; i < 400; i++) {
            expect.yes("new: there is room for 400 bytes", desk.put(1));
        }
    }

    private static void newHasNoPoints() {
        expect.no("new: ring(0)", new MaskDesk().ring(0));
        MaskDesk desk = new MaskDesk();
        for (int i = 0; i < 24; i++) {
            expect.yes("new: there is room for 24 points", desk.point(i % 17, 0));
        }
        desk = new MaskDesk();
        Refusals.drawThreePoints(desk);
        expect.no("new: three points and none before them", desk.ring(0));
    }

    private static void newPartsHaveNothing() {
        MaskDesk desk = new MaskDesk();
        for (int c = 0; c < 6; c++) {
            expect.due("new: expand of part " + c, desk.expand(0, c, 0, 0), 0);
        }
        expect.due("new: expand fills nothing", desk.measure(0, 0), 0);
        for (int c = 0; c < 6; c++) {
            for (int i = 0; i < 6; i++) {
                expect.yes("new: there is room for 6 boxes", desk.box(c, 0, 0, 1, 1));
            }
            for (int i = 0; i < 4 && c > 0; i++) {
                expect.yes("new: there is room for 4 placements", desk.place(c, 0, 1, 1));
            }
        }
    }

    private static void newObjectsShareNothing() {
        MaskDesk used = new MaskDesk();
        MaskDesk desk = new MaskDesk();
        used.rect(0, 0, 0, 16, 16);
        used.split(0);
        used.rect(1, 3, 3, 1, 1);
        used.check(1, 0, 2);
        used.box(0, 0, 0, 1, 1);
        used.at(3, 4, 5);
        used.steps(1, 1);
        used.write();
        Refusals.drawThreePoints(used);
        desk.point(1, 4);
        expect.no("another desk's points", desk.ring(2));
        for (MaskDesk other : new MaskDesk[] {desk, new MaskDesk()}) {
            expect.due("another desk's shapes", other.measure(0, 0), 0);
            expect.none("another desk's pieces", other.item(0, 0, 0));
            expect.none("another desk's faults", other.item(1, 0, 0));
            expect.due("another desk's bytes", other.byteAt(-1), 0);
            expect.due("another desk's parts", other.expand(0, 0, 0, 0), 0);
            other.box(0, 7, 2, 1, 1);
            other.place(1, 0, 2, 2);
            expect.due("another desk's place and steps", other.expand(1, 1, 0, 0), 4);
            expect.due("another desk's place and steps", other.measure(1, 0), 1);
            expect.yes("another desk's place and steps", other.filled(1, 7, 2));
        }
        expect.due("the used one has its own", used.measure(0, 0), 256);
    }

    // Promise 2: "false, refused, if there is no such shape, w or h is below 1, or a cell of it is
    // off the plate".

    private static final Refusals.Call RECT =
        (desk, a) -> Refusals.told(desk.rect(a[0], a[1], a[2], a[3], a[4]));

    private static void rectBounds() {
        refusals.bounds("rect", RECT, new int[] {2, 3, 3, 4, 4},
            new int[] {0, 5}, new int[] {0, 12}, new int[] {0, 12}, new int[] {1, 13}, new int[] {1, 13});
        refusals.bounds("rect", RECT, new int[] {5, 0, 15, 1, 1},
            new int[] {0, 5}, new int[] {0, 15}, new int[] {0, 15}, new int[] {1, 16}, new int[] {1, 1});
        refusals.bounds("rect", RECT, new int[] {0, 0, 0, 16, 16},
            new int[] {0, 5}, new int[] {0, 0}, new int[] {0, 0}, new int[] {1, 16}, new int[] {1, 16});
    }

    /** All places and lengths about the plate, along x and along y. */
    private static void rectOffThePlate() {
        for (int start = -3; start <= 18; start++) {
            for (int length = -2; length <= 19; length++) {
                boolean fits = start >= 0 && length >= 1 && start + length <= 16;
                MaskDesk desk = new MaskDesk();
                String what = "rect from " + start + ", " + length + " long";
                expect.due(what, desk.rect(1, start, 7, length, 2), fits);
                expect.due(what, desk.measure(1, 0), fits ? length * 2 : 0);
                expect.due(what, desk.rect(2, 7, start, 2, length), fits);
                expect.due(what, desk.measure(2, 0), fits ? length * 2 : 0);
                for (int k = 0; k < 16; k++) {
                    boolean filled = fits && k >= start && k < start + length;
                    expect.due(what + ": cell " + k, desk.filled(1, k, 8), filled);
                    expect.due(what + ": cell " + k, desk.filled(2, 8, k), filled);
                }
            }
        }
    }

    /** Far off in place and in length at once: the sum of the two may come back onto the plate. */
    private static void rectFarOff() {
        int least = Integer.MIN_VALUE;
        int most = Integer.MAX_VALUE;
        int[][] far = {
            {least, least}, {least, most}, {most, least}, {most, most}, {least + 5, least}, {least, least + 9},
            {-1, most}, {-5, 6}, {15, most}, {16, most}, {1, most}, {16, least}, {17, -1}, {most, 2},
            {most - 3, -(most - 10)}, {-65536, 65537}, {-16, 17}, {-16, 32}, {65536, 1}, {1 << 30, 1 << 30},
        };
        for (int[] one : far) {
            refusals.refused("rect", RECT, 0, one[0], 2, one[1], 1);
            refusals.refused("rect", RECT, 0, 2, one[0], 1, one[1]);
        }
    }

    private static void rectOnAFullShape() {
        MaskDesk desk = new MaskDesk();
        expect.yes("rect of the plate", desk.rect(0, 0, 0, 16, 16));
        expect.yes("rect on what is full", desk.rect(0, 0, 0, 16, 16));
        expect.yes("rect on what is full", desk.rect(0, 4, 4, 1, 1));
        expect.due("rect on what is full", desk.measure(0, 0), 256);
    }

    // Promise 3: "false if it is no point, or there are 24".

    private static final Refusals.Call POINT = (desk, a) -> Refusals.told(desk.point(a[0], a[1]));

    private static void pointBounds() {
        refusals.bounds("point", POINT, new int[] {5, 9}, new int[] {0, 16}, new int[] {0, 16});
        refusals.bounds("point", POINT, new int[] {0, 16}, new int[] {0, 16}, new int[] {0, 16});
    }

    private static void pointTwentyFive() {
        Refusals one = Refusals.onBusyDesk(expect, desk -> stair(desk, 23 - 3));
        one.taken("point", POINT, 5, 5);
        Refusals none = Refusals.onBusyDesk(expect, desk -> stair(desk, 24 - 3));
        none.refused("point", POINT, 5, 5);
        none.refused("point", POINT, 0, 0);
        none.refused("point", POINT, 17, 0);
        MaskDesk desk = new MaskDesk();
        stair(desk, 24);
        expect.no("point 25", desk.point(12, 12));
        expect.no("point 26", desk.point(0, 0));
        expect.yes("the ring of the 24 before", desk.ring(0));
        expect.due("the ring of the 24 before", desk.measure(0, 0), 66);
        expect.yes("point 1 behind a ring", desk.point(1, 1));
    }

    /** The first points of a ring of 24: a stair of 11 steps, and the corner below it. */
    private static void stair(MaskDesk desk, int points) {
        for (int i = 0; i < points; i++) {
            expect.yes("point " + i, desk.point(i / 2, i == 23 ? 0 : (i + 1) / 2));
        }
    }

    // Promise 4, and the term RING: "4 to 24 of them, an even number"; "False if they are none, or
    // there is no such shape".

    private static void draw(MaskDesk desk, int... xy) {
        for (int i = 0; i < xy.length; i += 2) {
            expect.yes("point(" + xy[i] + ", " + xy[i + 1] + ")", desk.point(xy[i], xy[i + 1]));
        }
    }

    /** Whether these are a ring, and that the shape stays if they are not. */
    private static void rings(String what, boolean want, int... xy) {
        MaskDesk desk = new MaskDesk();
        desk.rect(3, 9, 9, 2, 3);
        draw(desk, xy);
        expect.due(what, desk.ring(3), want);
        if (!want) {
            expect.due(what + ": the shape stays", desk.measure(3, 0), 6);
        }
        expect.no(what + ": no points are drawn then", desk.ring(3));
    }

    private static void ringOfNoPoint() {
        MaskDesk desk = new MaskDesk();
        for (int s = 0; s < 6; s++) {
            expect.no("ring of no point", desk.ring(s));
            expect.due("ring of no point", desk.measure(s, 0), 0);
        }
        expect.no("ring of no point in no shape", desk.ring(6));
    }

    private static void ringsOfFewPoints() {
        rings("1 point", false, 3, 3);
        rings("2 points", false, 3, 3, 7, 3);
        rings("2 points, slanted", false, 3, 3, 7, 5);
        rings("2 points that are one", false, 3, 3, 3, 3);
        rings("3 points", false, 3, 3, 7, 3, 7, 5);
        rings("3 points in a row", false, 3, 3, 7, 3, 5, 3);
        rings("4 points", true, 3, 3, 7, 3, 7, 5, 3, 5);
        rings("4 points, y first", true, 3, 3, 3, 5, 7, 5, 7, 3);
        rings("4 points that are one", false, 3, 3, 3, 3, 3, 3, 3, 3);
        rings("4 points in a row", false, 3, 3, 5, 3, 7, 3, 9, 3);
        rings("4 points to and fro", false, 3, 3, 5, 3, 3, 3, 5, 3);
        rings("5 points", false, 3, 3, 7, 3, 7, 5, 3, 5, 3, 4);
        rings("5 points, the last one the first", false, 3, 3, 7, 3, 7, 5, 3, 5, 3, 3);
        rings("6 points", true, 3, 3, 7, 3, 7, 5, 5, 5, 5, 4, 3, 4);
    }

    /** The stair cut off behind each number of points: closed it is a ring, if that is even. */
    private static void ringsOfEachLength() {
        for (int n = 0; n <= 24; n++) {
            MaskDesk desk = new MaskDesk();
            for (int i = 0; i < n; i++) {
                expect.yes("stair", desk.point(i / 2, i == n - 1 && n % 2 == 0 ? 0 : (i + 1) / 2));
            }
            boolean isRing = n >= 4 && n % 2 == 0;
            int steps = n / 2 - 1;
            expect.due("ring of " + n, desk.ring(0), isRing);
            expect.due("ring of " + n, desk.measure(0, 0), isRing ? steps * (steps + 1) / 2 : 0);
        }
    }

    /** "and from the last to the first": all is by turns but for the way back. */
    private static void ringFromTheLastToTheFirst() {
        rings("slanted at the end", false, 0, 0, 4, 0, 4, 4, 1, 4);
        rings("slanted at the end, y first", false, 0, 0, 0, 4, 4, 4, 4, 1);
        rings("level twice at the end", false, 0, 0, 4, 0, 4, 4, 6, 4, 6, 0, 8, 0);
        rings("upright twice at the end", false, 0, 0, 0, 4, 4, 4, 4, 6, 0, 6, 0, 8);
        rings("the last is the first", false, 0, 0, 4, 0, 4, 4, 2, 4, 2, 0, 0, 0);
        rings("the last is the first, y first", false, 0, 0, 0, 4, 4, 4, 4, 2, 0, 2, 0, 0);
        rings("upright at the end", true, 0, 0, 4, 0, 4, 4, 6, 4, 6, 8, 0, 8);
    }

    /** "just one of x and y is another one, x and y by turns": all rows of few points beside it. */
    private static void ringByTurns() {
        for (int n = 1; n <= 5; n++) {
            eachRow(n, 3, 3);
        }
        eachRow(6, 3, 2);
        eachRow(8, 2, 2);
    }

    private static void eachRow(int n, int wide, int high) {
        int rows = 1;
        for (int i = 0; i < n; i++) {
            rows *= wide * high;
        }
        int[] xs = new int[n];
        int[] ys = new int[n];
        for (int row = 0; row < rows; row++) {
            int rest = row;
            MaskDesk desk = new MaskDesk();
            for (int i = 0; i < n; i++) {
                xs[i] = rest % wide * 8;
                ys[i] = rest / wide % high * 8;
                rest /= wide * high;
                desk.point(xs[i], ys[i]);
            }
            boolean isRing = n >= 4 && (isByTurns(xs, ys) || isByTurns(ys, xs));
            expect.due("row " + row + " of " + n, desk.ring(0), isRing);
            int quarters = 0;
            for (int k = 0; k < 4; k++) {
                boolean inside = isRing && countLeft(xs, ys, k % 2 * 8 + 3, k / 2 * 8 + 3) % 2 == 1;
                quarters += inside ? 1 : 0;
                expect.due("row " + row + " of " + n, desk.filled(0, k % 2 * 8 + 3, k / 2 * 8 + 3), inside);
            }
            expect.due("row " + row + " of " + n, desk.measure(0, 0), quarters * 64);
        }
    }

    /** Whether first alone changes behind each even place, and second alone behind each odd one. */
    private static boolean isByTurns(int[] first, int[] second) {
        int n = first.length;
        for (int i = 0; i < n; i++) {
            boolean changes = first[i] != first[(i + 1) % n];
            boolean otherChanges = second[i] != second[(i + 1) % n];
            if (changes != (i % 2 == 0) || otherChanges != (i % 2 == 1)) {
                return false;
            }
        }
        return n % 2 == 0;
    }

    private static int countLeft(int[] xs, int[] ys, int x, int y) {
        int count = 0;
        for (int i = 0; i < xs.length; i++) {
            int next = (i + 1) % xs.length;
            boolean beside = y >= Math.min(ys[i], ys[next]) && y < Math.max(ys[i], ys[next]);
            count += beside && xs[i] <= x ? 1 : 0;
        }
        return count;
    }

    private static void ringInNoShape() {
        for (int s : Edges.NO_SHAPE) {
            MaskDesk desk = new MaskDesk();
            draw(desk, 0, 0, 4, 0, 4, 4, 0, 4);
            expect.no("ring(" + s + ")", desk.ring(s));
            for (int k = 0; k < 6; k++) {
                expect.due("ring(" + s + ") fills nothing", desk.measure(k, 0), 0);
            }
        }
        for (int s = 0; s < 6; s++) {
            MaskDesk desk = new MaskDesk();
            draw(desk, 0, 0, 4, 0, 4, 4, 0, 4);
            expect.yes("ring(" + s + ")", desk.ring(s));
            for (int k = 0; k < 6; k++) {
                expect.due("ring(" + s + ") fills that one alone", desk.measure(k, 0), k == s ? 16 : 0);
            }
        }
    }

    /** "No points are drawn then, in both cases": whether it was a ring or not. */
    private static void ringLeavesNoPoints() {
        int[][] drawn = {
            {}, {0, 0}, {0, 0, 4, 4}, {0, 0, 4, 0, 4, 4, 0, 4}, {0, 0, 4, 0, 4, 4, 0, 4, 0, 2}, {0, 0, 4, 4, 8, 0, 4, 0},
        };
        for (int[] points : drawn) {
            for (int s : new int[] {0, 5, 6, -1, Integer.MAX_VALUE, Integer.MIN_VALUE}) {
                String what = "behind ring(" + s + ") of " + points.length / 2;
                MaskDesk desk = new MaskDesk();
                draw(desk, points);
                desk.ring(s);
                expect.no(what, desk.ring(1));
                for (int i = 0; i < 24; i++) {
                    expect.yes(what + ": room for 24", desk.point(9, i % 17));
                }
                expect.no(what + ": room for 24", desk.point(9, 9));
                expect.no(what, desk.ring(1));
                draw(desk, 8, 8, 11, 8, 11, 10, 8, 10);
                expect.yes(what + ": a ring of what comes", desk.ring(1));
                expect.due(what + ": a ring of what comes", desk.measure(1, 0), 6);
            }
        }
    }

    /** A ring may go round so that nothing is inside: it is one all the same. */
    private static void ringInsideNothing() {
        MaskDesk desk = new MaskDesk();
        desk.rect(0, 1, 1, 2, 2);
        draw(desk, 0, 0, 4, 0, 4, 4, 0, 4, 0, 0, 4, 0, 4, 4, 0, 4);
        expect.yes("twice round", desk.ring(0));
        expect.due("twice round", desk.measure(0, 0), 4);
        draw(desk, 0, 0, 4, 0, 4, 4, 0, 4);
        expect.yes("once round", desk.ring(0));
        expect.due("once round", desk.measure(0, 0), 16);
        draw(desk, 0, 0, 4, 0, 4, 4, 0, 4);
        expect.yes("once more: what is filled stays", desk.ring(0));
        expect.due("once more: what is filled stays", desk.measure(0, 0), 16);
    }

    private static void ringAtTheRim() {
        MaskDesk desk = new MaskDesk();
        draw(desk, 0, 0, 16, 0, 16, 16, 0, 16);
        expect.yes("round the plate", desk.ring(0));
        expect.due("round the plate", desk.measure(0, 0), 256);
        draw(desk, 15, 15, 15, 16, 16, 16, 16, 15);
        expect.yes("round the last cell", desk.ring(1));
        expect.due("round the last cell", desk.measure(1, 0), 1);
        expect.yes("round the last cell", desk.filled(1, 15, 15));
        draw(desk, 1, 1, 0, 1, 0, 0, 1, 0);
        expect.yes("round the first cell", desk.ring(2));
        expect.due("round the first cell", desk.measure(2, 0), 1);
        expect.yes("round the first cell", desk.filled(2, 0, 0));
        // From x = 16 on there is no cell: the edges there count for none.
        draw(desk, 16, 2, 16, 6, 12, 6, 12, 2);
        expect.yes("at the right rim", desk.ring(3));
        expect.due("at the right rim", desk.measure(3, 0), 16);
        expect.yes("at the right rim", desk.filled(3, 15, 5));
        expect.no("at the right rim", desk.filled(3, 11, 5));
    }

    /** "not above the cell's", "from the lower y of its ends on, below the upper one". */
    private static void ringBesideItsEdges() {
        for (int way = 0; way < 2; way++) {
            MaskDesk desk = new MaskDesk();
            if (way == 0) {
                draw(desk, 3, 2, 7, 2, 7, 5, 3, 5);
            } else {
                draw(desk, 3, 5, 7, 5, 7, 2, 3, 2);
            }
            expect.yes("ring", desk.ring(0));
            for (int x = 2; x <= 8; x++) {
                for (int y = 1; y <= 6; y++) {
                    boolean inside = x >= 3 && x < 7 && y >= 2 && y < 5;
                    expect.due("ring: filled(0, " + x + ", " + y + ")", desk.filled(0, x, y), inside);
                }
            }
        }
    }

    // Promise 5: "false, refused, if there is no such shape or kind".

    private static final Refusals.Call JOIN = (desk, a) -> Refusals.told(desk.join(a[0], a[1], a[2], a[3]));

    private static void joinBounds() {
        int[] shapes = {0, 5};
        refusals.bounds("join", JOIN, new int[] {3, 0, 1, 0}, shapes, shapes, shapes, new int[] {0, 3});
        refusals.bounds("join", JOIN, new int[] {0, 5, 4, 3}, shapes, shapes, shapes, new int[] {0, 3});
    }

    /** Shape s has the cells i of row 0 with bit i % 8 of its number: each three of shapes, each kind. */
    private static void joinOfEachThree() {
        int[] numbers = {0, 0xFF, 0x0F, 0x35, 0xA6, 0x80};
        for (int i = 0; i < 6 * 6 * 6 * 4; i++) {
            int t = i % 6;
            int a = i / 6 % 6;
            int b = i / 36 % 6;
            int kind = i / 216;
            MaskDesk desk = new MaskDesk();
            for (int k = 0; k < 48; k++) {
                if ((numbers[k / 8] >> k % 8 & 1) == 1) {
                    desk.rect(k / 8, k % 8, 0, 1, 1);
                }
            }
            int both = numbers[a] & numbers[b];
            int one = numbers[a] ^ numbers[b];
            int due = kind == 0 ? one | both : kind == 1 ? both : kind == 2 ? numbers[a] & one : one;
            String what = "join(" + t + ", " + a + ", " + b + ", " + kind + ")";
            expect.yes(what, desk.join(t, a, b, kind));
            for (int s = 0; s < 6; s++) {
                int want = s == t ? due : numbers[s];
                expect.due(what + ": shape " + s, desk.measure(s, 0), Integer.bitCount(want));
                for (int k = 0; k < 8; k++) {
                    expect.due(what + ": shape " + s, desk.filled(s, k, 0), (want >> k & 1) == 1);
                }
            }
        }
    }

    // Promise 6: "false, refused, if there is no such shape, or r is not -8 .. 8"; the terms GROWN
    // and SHRUNK: "all cells of the plate", "also those off the plate".

    private static final Refusals.Call SIZE = (desk, a) -> Refusals.told(desk.size(a[0], a[1], a[2]));

    private static void sizeBounds() {
        refusals.bounds("size", SIZE, new int[] {3, 0, 1}, new int[] {0, 5}, new int[] {0, 5}, new int[] {-8, 8});
        refusals.bounds("size", SIZE, new int[] {0, 4, -8}, new int[] {0, 5}, new int[] {0, 5}, new int[] {-8, 8});
    }

    private static boolean[][] cells(MaskDesk desk, int s) {
        boolean[][] cells = new boolean[16][16];
        for (int i = 0; i < 256; i++) {
            cells[i % 16][i / 16] = desk.filled(s, i % 16, i / 16);
        }
        return cells;
    }

    /** What GROWN and SHRUNK say of one cell, taken word by word. */
    private static boolean isSized(boolean[][] cells, int x, int y, int r) {
        int far = Math.abs(r);
        for (int i = x - far; i <= x + far; i++) {
            for (int j = y - far; j <= y + far; j++) {
                boolean filled = Edges.within(i, 0, 15) && Edges.within(j, 0, 15) && cells[i][j];
                if (filled == r >= 0) {
                    return filled;
                }
            }
        }
        return r < 0;
    }

    private static void drawToSize(MaskDesk desk, int sample) {
        switch (sample) {
            case 0:
                desk.rect(0, 0, 0, 1, 1);
                desk.rect(0, 15, 4, 1, 1);
                desk.rect(0, 9, 15, 1, 1);
                break;
            case 1:
                desk.rect(0, 0, 0, 16, 16);
                desk.rect(1, 15, 15, 1, 1);
                desk.rect(1, 0, 7, 1, 1);
                desk.join(0, 0, 1, 2);
                break;
            case 2:
                desk.rect(0, 2, 0, 11, 13);
                desk.rect(0, 9, 8, 7, 8);
                break;
            default:
                Expect.drawCheckerboard(desk, 0);
                desk.rect(0, 3, 2, 11, 7);
                break;
        }
    }

    private static void sizeEachWay() {
        for (int sample = 0; sample < 4; sample++) {
            MaskDesk drawn = new MaskDesk();
            drawToSize(drawn, sample);
            boolean[][] before = cells(drawn, 0);
            for (int i = 0; i < 34; i++) {
                int r = i / 2 - 8;
                int t = i % 2 * 3;
                MaskDesk desk = new MaskDesk();
                drawToSize(desk, sample);
                String what = "sample " + sample + ": size(" + t + ", 0, " + r + ")";
                int count = desk.measure(0, 0);
                expect.yes(what, desk.size(t, 0, r));
                for (int k = 0; k < 256; k++) {
                    boolean want = isSized(before, k % 16, k / 16, r);
                    expect.due(what + ": cell " + k, desk.filled(t, k % 16, k / 16), want);
                }
                if (t != 0) {
                    expect.due(what + ": what is grown stays", desk.measure(0, 0), count);
                }
            }
        }
    }

    /** Growth stops at the rim: it does not come in again at the other side, nor does it come back. */
    private static void grownPastTheRim() {
        for (int corner = 0; corner < 4; corner++) {
            int x = corner % 2 * 15;
            int y = corner / 2 * 15;
            for (int r = 0; r <= 8; r++) {
                MaskDesk desk = new MaskDesk();
                desk.rect(0, x, y, 1, 1);
                expect.yes("grown from a corner", desk.size(1, 0, r));
                expect.due("grown from a corner by " + r, desk.measure(1, 0), (r + 1) * (r + 1));
                expect.yes("grown from a corner by " + r, desk.filled(1, Math.abs(x - r), Math.abs(y - r)));
                expect.due("shrunk again", desk.size(2, 1, -r), true);
                // All but the corner itself has cells off the plate within reach as well.
                expect.due("shrunk again by " + r, desk.measure(2, 0), r == 0 ? 1 : 0);
            }
        }
    }

    private static void shrunkFromTheRim() {
        for (int r = 0; r <= 8; r++) {
            MaskDesk desk = new MaskDesk();
            desk.rect(0, 0, 0, 16, 16);
            expect.yes("the plate shrunk", desk.size(1, 0, -r));
            expect.due("the plate shrunk by " + r, desk.measure(1, 0), (16 - 2 * r) * (16 - 2 * r));
            expect.due("the plate shrunk by " + r, desk.filled(1, r, 15 - r), r < 8);
            desk.rect(2, 0, 3, 16, 5);
            expect.yes("a band shrunk", desk.size(3, 2, -r));
            expect.due("a band shrunk by " + r, desk.measure(3, 0), r > 2 ? 0 : (16 - 2 * r) * (5 - 2 * r));
        }
    }

    private static void sizeOfEmptyAndFull() {
        for (int r = -8; r <= 8; r++) {
            MaskDesk desk = new MaskDesk();
            desk.rect(1, 4, 4, 3, 3);
            expect.yes("size of nothing", desk.size(1, 0, r));
            expect.due("size of nothing by " + r, desk.measure(1, 0), 0);
            desk.rect(2, 0, 0, 16, 16);
            expect.yes("size of the plate", desk.size(3, 2, r));
            int side = 16 + 2 * Math.min(r, 0);
            expect.due("size of the plate by " + r, desk.measure(3, 0), side * side);
        }
    }

    // Promise 13: "false if there is none such".

    private static final Refusals.Call FILLED = (desk, a) -> Refusals.told(desk.filled(a[0], a[1], a[2]));

    private static void filledBounds() {
        Refusals full = Refusals.onBusyDesk(expect, desk -> {
            for (int s = 0; s < 6; s++) {
                desk.rect(s, 0, 0, 16, 16);
            }
        });
        int[] cells = {0, 15};
        full.bounds("filled", FILLED, new int[] {3, 5, 9}, new int[] {0, 5}, cells, cells);
        full.bounds("filled", FILLED, new int[] {0, 0, 15}, new int[] {0, 5}, cells, cells);
        MaskDesk desk = new MaskDesk();
        desk.rect(0, 0, 0, 16, 16);
        for (int i = 0; i < 400; i++) {
            int x = i % 20 - 2;
            int y = i / 20 - 2;
            boolean onPlate = Edges.within(x, 0, 15) && Edges.within(y, 0, 15);
            expect.due("filled(0, " + x + ", " + y + ")", desk.filled(0, x, y), onPlate);
        }
    }
}
