import java.util.Arrays;

/** The boundary cases of promises 18 to 21, and of the bounds of a FILE: one test a sentence. */
public final class FileEdgesTest {
    private static final Expect expect = new Expect("FileEdgesTest");
    private static final Refusals refusals = Refusals.onBusyDesk(expect);

    public static void main(String[] args) {
        writeWithoutPieces();
        writeInPlaceOfBytes();
        writeOnFourHundred();
        writtenLinesOfTwo();
        writtenLinesToTheRim();
        writtenAtLength();
        putBounds();
        putFourHundredAndOne();
        byteAtBounds();
        byteAtOfEachLength();
        byteAtOfFourHundred();
        readBounds();
        readNoBytes();
        readLeavesNoBytes();
        readKeepsOrReplaces();
        readAtTheFirstByte();
        readWidths();
        readHeights();
        readNumbersOfLines();
        readPlaces();
        readCounts();
        readStepsOfEachKind();
        readStepsFarOff();
        readOnlyTheFirstFault();
        readEachByteMissing();
        readBehindTheEnd();
        readFourHundred();
        readEachCounts();
        expect.finish();
    }

    private static void fill(MaskDesk desk, int... bytes) {
        for (int b : bytes) {
            expect.yes("put(" + b + ")", desk.put(b));
        }
    }

    private static int[] with(int[] bytes, int... more) {
        int[] all = Arrays.copyOf(bytes, bytes.length + more.length);
        System.arraycopy(more, 0, all, bytes.length, more.length);
        return all;
    }

    // Promise 18: "(without any: the byte 0 alone)", "in place of the bytes that there are".

    private static void writeWithoutPieces() {
        MaskDesk desk = new MaskDesk();
        desk.rect(0, 3, 3, 2, 2);
        fill(desk, 9, 8, 7);
        expect.due("nothing was split", desk.write(), 1);
        expect.bytes("nothing was split", desk, 0);
        expect.none("the bytes before are gone", desk.byteAt(1));
        desk.split(0);
        expect.due("a piece", desk.write(), 7);
        desk.split(1);
        expect.due("an empty shape was split", desk.write(), 1);
        expect.bytes("an empty shape was split", desk, 0);
        expect.none("the bytes before are gone", desk.byteAt(1));
        expect.due("read it", desk.read(0), 0);
        expect.due("read it", desk.measure(0, 0), 0);
    }

    private static void writeInPlaceOfBytes() {
        for (int before = 0; before <= 20; before++) {
            MaskDesk desk = new MaskDesk();
            desk.rect(0, 3, 4, 5, 6);
            desk.split(0);
            for (int i = 0; i < before; i++) {
                fill(desk, 100 + i);
            }
            expect.due(before + " bytes before", desk.write(), 7);
            expect.bytes(before + " bytes before", desk, 5, 6, 1, 3, 4, 1, 0);
            expect.none(before + " bytes before", desk.byteAt(7));
            expect.due("again", desk.write(), 7);
            expect.bytes("again", desk, 5, 6, 1, 3, 4, 1, 0);
            fill(desk, 77);
            expect.bytes("one more behind them", desk, 5, 6, 1, 3, 4, 1, 0, 77);
        }
    }

    private static void writeOnFourHundred() {
        MaskDesk desk = new MaskDesk();
        desk.rect(0, 3, 4, 5, 6);
        desk.split(0);
        for (int i = 0; i < 400; i++) {
            fill(desk, 255);
        }
        expect.due("400 bytes before", desk.write(), 7);
        expect.bytes("400 bytes before", desk, 5, 6, 1, 3, 4, 1, 0);
        expect.none("400 bytes before", desk.byteAt(7));
        expect.yes("there is room again", desk.put(1));
    }

    /** WRITTEN: one alone, two, and one behind two with other steps; a line is as long as it goes. */
    private static void writtenLinesOfTwo() {
        int[][] xs = {{4}, {4, 6}, {4, 6, 8}, {4, 6, 9}, {4, 6, 9, 11}, {4, 6, 9, 12}, {0, 2, 4, 6, 8, 10, 12, 14}};
        int[][] lines = {
            {1, 4, 0, 1}, {1, 4, 0, 2, 2, 0}, {1, 4, 0, 3, 2, 0}, {2, 4, 0, 2, 2, 0, 9, 0, 1},
            {2, 4, 0, 2, 2, 0, 9, 0, 2, 2, 0}, {2, 4, 0, 2, 2, 0, 9, 0, 2, 3, 0}, {1, 0, 0, 8, 2, 0},
        };
        for (int i = 0; i < xs.length; i++) {
            MaskDesk desk = new MaskDesk();
            for (int x : xs[i]) {
                desk.rect(0, x, 0, 1, 1);
            }
            expect.due("pieces", desk.split(0), xs[i].length);
            int[] want = with(with(new int[] {1, 1}, lines[i]), 0);
            expect.due("lines " + i, desk.write(), want.length);
            expect.bytes("lines " + i, desk, want);
            expect.due("lines " + i + " read back", desk.read(1), xs[i].length);
        }
    }

    /** The farthest steps that pieces can have: 15 on, and 15 back. */
    private static void writtenLinesToTheRim() {
        MaskDesk desk = new MaskDesk();
        desk.rect(0, 15, 0, 1, 1);
        desk.rect(0, 0, 15, 1, 1);
        desk.split(0);
        expect.due("15 back and 15 up", desk.write(), 9);
        expect.bytes("15 back and 15 up", desk, 1, 1, 1, 15, 0, 2, 241, 15, 0);
        expect.due("read back", desk.read(1), 2);
        desk.join(2, 0, 1, 3);
        expect.due("read back", desk.measure(2, 0), 0);
        desk = new MaskDesk();
        desk.rect(0, 0, 0, 16, 16);
        desk.split(0);
        expect.due("the plate", desk.write(), 7);
        expect.bytes("the plate", desk, 16, 16, 1, 0, 0, 1, 0);
        expect.due("read back", desk.read(1), 1);
        expect.due("read back", desk.measure(1, 0), 256);
    }

    /** The longest file that a search for one has found: 108 pieces. */
    private static void writtenAtLength() {
        MaskDesk desk = new MaskDesk();
        Expect.draw(desk, 0,
            "##.#.#.#.###.#.#",
            "#.#.#.##.#.#..#.",
            ".#.#.#..#.##.#.#",
            "#.#.#.##.#..#.#.",
            ".#.##.#.#.##.#.#",
            "#.#..#.#..#.#.#.",
            ".#.#..#.#.##.#.#",
            "#.#.##.#.#..#.#.",
            ".#.#.#..#.#..#.#",
            "#.#.##.#.#.##.#.",
            ".#.##.#.#.##.#.#",
            "#.#.##.#.#..#.#.",
            ".#.##.#.#.##.#.#",
            "#.##.#.#.#..#.#.",
            ".#.###..#.#.####",
            "#.#.##.#.#.#####");
        expect.due("chords", desk.measure(0, 4), 13);
        expect.due("pieces", desk.split(0), 108);
        expect.due("bytes", desk.write(), 302);
        expect.due("bytes", desk.byteAt(-1), 302);
        expect.due("the last byte", desk.byteAt(301), 0);
        expect.none("behind the last byte", desk.byteAt(302));
        expect.due("read back", desk.read(1), 108);
        desk.join(2, 0, 1, 3);
        expect.due("read back", desk.measure(2, 0), 0);
    }

    // Promise 19: "false, refused, if it is not 0 .. 255, or there are 400".

    private static final Refusals.Call PUT = (desk, a) -> Refusals.told(desk.put(a[0]));

    private static void putBounds() {
        refusals.bounds("put", PUT, new int[] {7}, new int[] {0, 255});
        MaskDesk desk = new MaskDesk();
        for (int b = 0; b < 256; b++) {
            expect.yes("put(" + b + ")", desk.put(b));
            expect.due("put(" + b + ")", desk.byteAt(b), b);
        }
    }

    private static void putMany(MaskDesk desk, int many) {
        for (int i = 0; i < many; i++) {
            desk.put(i * 7 % 256);
        }
    }

    private static void somethingAnd(MaskDesk desk, int bytes) {
        desk.rect(0, 1, 1, 3, 2);
        desk.rect(1, 9, 9, 1, 1);
        desk.split(0);
        desk.check(1, 0, 2);
        desk.box(0, 1, 1, 1, 1);
        Refusals.drawThreePoints(desk);
        putMany(desk, bytes);
    }

    private static void putFourHundredAndOne() {
        Refusals one = Refusals.afterManyCalls(expect, desk -> somethingAnd(desk, 399));
        one.taken("put byte 400", PUT, 0);
        one.taken("put byte 400", PUT, 255);
        one.refused("put no byte 400", PUT, 256);
        Refusals none = Refusals.afterManyCalls(expect, desk -> somethingAnd(desk, 400));
        for (int b : new int[] {0, 1, 255, 256, -1, Integer.MIN_VALUE, Integer.MAX_VALUE}) {
            none.refused("put byte 401", PUT, b);
        }
        MaskDesk desk = new MaskDesk();
        putMany(desk, 400);
        for (int i = 0; i < 20; i++) {
            expect.no("put 400 and " + i, desk.put(i));
        }
        expect.due("there are 400", desk.byteAt(-1), 400);
        desk.read(0);
        expect.yes("there is room again", desk.put(3));
        expect.bytes("there is room again", desk, 3);
    }

    // Promise 20: "how many, if i is -1; NONE if there is none such".

    private static void byteAtBounds() {
        Refusals some = Refusals.onBusyDesk(expect, desk -> {
            desk.read(5);
            putMany(desk, 30);
        });
        some.bounds("byteAt", (desk, a) -> desk.byteAt(a[0]), new int[] {7}, new int[] {-1, 29});
    }

    private static void byteAtOfEachLength() {
        for (int n = 0; n <= 20; n++) {
            MaskDesk desk = new MaskDesk();
            for (int i = 0; i < n; i++) {
                fill(desk, 200 - i);
            }
            expect.due("byteAt(-1)", desk.byteAt(-1), n);
            for (int i = -4; i < 30; i++) {
                if (i != -1) {
                    int want = i >= 0 && i < n ? 200 - i : MaskDesk.NONE;
                    expect.due("byteAt(" + i + ") of " + n, desk.byteAt(i), want);
                }
            }
            expect.none("byteAt far off", desk.byteAt(Integer.MIN_VALUE));
            expect.none("byteAt far off", desk.byteAt(Integer.MAX_VALUE));
            expect.due("byteAt(-1), asked again", desk.byteAt(-1), n);
        }
    }

    private static void byteAtOfFourHundred() {
        MaskDesk desk = new MaskDesk();
        putMany(desk, 400);
        expect.due("byteAt(-1)", desk.byteAt(-1), 400);
        for (int i = 300; i < 400; i++) {
            expect.due("byteAt(" + i + ")", desk.byteAt(i), i * 7 % 256);
        }
        expect.none("byteAt(400)", desk.byteAt(400));
        expect.none("byteAt(401)", desk.byteAt(401));
        expect.none("byteAt(-2)", desk.byteAt(-2));
    }

    // Promise 21: "NONE, refused (the bytes stay), if there is no such shape".

    private static void readBounds() {
        Refusals.Call read = (desk, a) -> desk.read(a[0]);
        int[][] rows = {{}, {0}, {5, 6, 1, 3, 4, 1, 0}, {5, 6, 1, 3, 4}, {17}, {5, 6, 1, 14, 4, 1, 0}};
        for (int[] bytes : rows) {
            Refusals some = Refusals.onBusyDesk(expect, desk -> {
                desk.read(5);
                fill(desk, bytes);
            });
            some.bounds("read", read, new int[] {2}, new int[] {0, 5});
        }
        for (int s = 0; s < 6; s++) {
            MaskDesk desk = new MaskDesk();
            fill(desk, 5, 6, 1, 3, 4, 1, 0);
            expect.due("read(" + s + ")", desk.read(s), 1);
            for (int k = 0; k < 6; k++) {
                expect.due("read(" + s + ") is in that shape alone", desk.measure(k, 0), k == s ? 30 : 0);
            }
        }
    }

    /** What read answers, that the bytes are gone, and that the shape stays if they are no file. */
    private static void reads(String what, int want, int... bytes) {
        MaskDesk desk = new MaskDesk();
        desk.rect(3, 5, 5, 2, 1);
        fill(desk, bytes);
        String asked = what + " " + Arrays.toString(bytes);
        expect.due(asked, desk.read(3), want);
        expect.due(asked + ": no bytes any more", desk.byteAt(-1), 0);
        expect.none(asked + ": no bytes any more", desk.byteAt(0));
        if (want < 0) {
            expect.due(asked + ": the shape stays", desk.measure(3, 0), 2);
            expect.yes(asked + ": the shape stays", desk.filled(3, 5, 5) && desk.filled(3, 6, 5));
        }
        fill(desk, 0);
        expect.due(asked + ": what comes then is read alone", desk.read(3), 0);
        expect.due(asked + ": what comes then is read alone", desk.measure(3, 0), 0);
    }

    private static void readNoBytes() {
        reads("no bytes", -1);
        MaskDesk desk = new MaskDesk();
        desk.rect(0, 0, 0, 16, 16);
        for (int i = 0; i < 3; i++) {
            expect.due("no bytes", desk.read(0), -1);
            expect.due("no bytes: the shape stays", desk.measure(0, 0), 256);
        }
    }

    /** "There are no bytes any more, in both cases." */
    private static void readLeavesNoBytes() {
        MaskDesk desk = new MaskDesk();
        desk.rect(0, 3, 4, 5, 6);
        desk.split(0);
        desk.write();
        expect.due("a file", desk.read(1), 1);
        expect.due("a file", desk.byteAt(-1), 0);
        expect.due("no file now", desk.read(1), -1);
        fill(desk, 5, 6, 1, 3, 4);
        expect.due("part of a file", desk.read(1), -6);
        expect.due("part of a file", desk.byteAt(-1), 0);
        fill(desk, 1, 0);
        expect.due("its rest alone", desk.read(1), -2);
        expect.due("its rest alone", desk.byteAt(-1), 0);
        expect.due("all the while the shape stays", desk.measure(1, 0), 30);
        expect.due("the pieces are there still", desk.write(), 7);
    }

    /** "shape s becomes its rectangles"; "If they are no file: .. the shape stays". */
    private static void readKeepsOrReplaces() {
        MaskDesk desk = new MaskDesk();
        desk.rect(0, 0, 0, 16, 16);
        fill(desk, 2, 2, 2, 4, 4, 1, 8, 8, 1, 17);
        expect.due("no file", desk.read(0), -10);
        expect.due("no file", desk.measure(0, 0), 256);
        desk.join(1, 1, 1, 3);
        fill(desk, 2, 2, 2, 4, 4, 1, 8, 8, 1);
        expect.due("part of a file", desk.read(1), -10);
        expect.due("part of a file", desk.measure(1, 0), 0);
        fill(desk, 2, 2, 2, 4, 4, 1, 8, 8, 1, 0);
        expect.due("a file", desk.read(0), 2);
        expect.due("a file", desk.measure(0, 0), 8);
        fill(desk, 0);
        expect.due("an empty file", desk.read(0), 0);
        expect.due("an empty file", desk.measure(0, 0), 0);
    }

    // The bounds of a FILE, each with all 256 bytes at that place: a byte with which no file goes on
    // is told by its place, one with which a file may go on leaves something missing behind it.

    private static void next(String what, int b, boolean goesOn, int... before) {
        int place = before.length;
        reads(what, goesOn ? -1 - (place + 1) : -1 - place, with(before, b));
        // What stands behind the first fault is not looked at.
        if (!goesOn) {
            reads(what, -1 - place, with(before, b, 255, 0));
        }
    }

    private static void readAtTheFirstByte() {
        for (int b = 1; b < 256; b++) {
            next("w", b, b <= 16);
        }
        reads("the end at once", 0, 0);
    }

    private static void readWidths() {
        for (int b = 1; b < 256; b++) {
            next("w of the next group", b, b <= 16, 3, 4, 1, 5, 6, 1);
        }
        reads("the end behind a group", 1, 3, 4, 1, 5, 6, 1, 0);
    }

    private static void readHeights() {
        for (int w : new int[] {1, 16}) {
            for (int b = 0; b < 256; b++) {
                next("h", b, b >= 1 && b <= 16, w);
                next("h of the next group", b, b >= 1 && b <= 16, 3, 4, 1, 5, 6, 1, w);
            }
        }
    }

    private static void readNumbersOfLines() {
        for (int b = 0; b < 256; b++) {
            next("lines", b, b >= 1, 16, 16);
            next("lines of the next group", b, b >= 1, 3, 4, 1, 5, 6, 1, 1, 1);
        }
        for (int lines = 1; lines <= 100; lines++) {
            int[] bytes = {2, 3, lines};
            for (int i = 0; i < lines; i++) {
                bytes = with(bytes, i % 15, i % 14, 1);
            }
            reads(lines + " lines", lines, with(bytes, 0));
            reads(lines + " lines and no end", -1 - bytes.length, bytes);
            reads(lines - 1 + " lines for " + lines, -bytes.length + 2, Arrays.copyOf(bytes, bytes.length - 3));
            reads(lines + " lines and a group", -4 - bytes.length, with(bytes, 1, 1, 1));
        }
    }

    /** x and y: from 0 as far as the rectangle lies on the plate. */
    private static void readPlaces() {
        for (int side = 1; side <= 16; side++) {
            for (int b = 0; b < 256; b++) {
                next("x", b, b + side <= 16, side, 17 - side, 1);
                next("y", b, b + side <= 16, 17 - side, side, 1, 0);
            }
        }
        for (int b = 0; b < 256; b++) {
            next("x of a second line", b, b <= 13, 3, 4, 2, 13, 12, 1);
            next("y of a second line", b, b <= 12, 3, 4, 2, 13, 12, 1, 13);
        }
    }

    private static void readCounts() {
        for (int b = 0; b < 256; b++) {
            next("count", b, b >= 1, 16, 1, 1, 0, 15);
            if (b == 1) {
                reads("count 1 has no steps", 1, 16, 1, 1, 0, 15, 1, 0);
            } else if (b > 1) {
                reads("count " + b + " has steps", b, 16, 1, 1, 0, 15, b, 0, 0, 0);
                reads("count " + b + " wants both", -8, 16, 1, 1, 0, 15, b, 0);
            }
        }
    }

    /** All steps for places and counts from the least to the most: the last one decides. */
    private static void readStepsOfEachKind() {
        int[][] lines = {
            {1, 0, 2}, {1, 15, 2}, {1, 7, 2}, {1, 0, 16}, {1, 15, 16}, {1, 0, 17}, {1, 8, 3}, {1, 0, 255}, {1, 15, 255},
            {15, 0, 2}, {15, 1, 2}, {16, 0, 2}, {16, 0, 255}, {4, 12, 4}, {4, 0, 13}, {4, 0, 14}, {2, 5, 129},
        };
        for (int[] line : lines) {
            int side = line[0];
            int start = line[1];
            int count = line[2];
            for (int b = 0; b < 256; b++) {
                int step = b < 128 ? b : b - 256;
                int last = start + (count - 1) * step;
                boolean fits = last >= 0 && last + side <= 16;
                next("dx", b, fits, side, 2, 1, start, 3, count);
                next("dy", b, fits, 2, side, 1, 3, start, count, 0);
                if (fits) {
                    MaskDesk desk = new MaskDesk();
                    fill(desk, side, 2, 1, start, 3, count, b, 0, 0);
                    expect.due("dx " + step + " to the end", desk.read(0), count);
                    fill(desk, 2, side, 1, 3, start, count, 0, b, 0);
                    expect.due("dy " + step + " to the end", desk.read(1), count);
                    lineLies(desk, side, start, count, step);
                }
            }
        }
    }

    /** Shape 0 has a line along x, two cells high from y = 3 on, shape 1 the same along y. */
    private static void lineLies(MaskDesk desk, int side, int start, int count, int step) {
        boolean[] covered = new boolean[16];
        for (int i = 0; i < count; i++) {
            Arrays.fill(covered, start + i * step, start + i * step + side, true);
        }
        for (int k = 0; k < 256; k++) {
            boolean between = k / 16 == 3 || k / 16 == 4;
            String what = count + " with step " + step + ": cell " + k;
            expect.due(what, desk.filled(0, k % 16, k / 16), between && covered[k % 16]);
            if (k < 32) {
                expect.due(what, desk.filled(1, 3 + k / 16, k % 16), covered[k % 16]);
            }
        }
    }

    /** "numbers from -128 to 127": the least and the greatest lead off the plate, even from its rim. */
    private static void readStepsFarOff() {
        for (int count : new int[] {2, 3, 128, 129, 255}) {
            for (int b : new int[] {127, 128, 129, 126, 16, 240}) {
                reads("dx far off", -7, 1, 1, 1, 0, 0, count, b);
                reads("dx far off", -7, 1, 1, 1, 15, 0, count, b);
                reads("dy far off", -8, 1, 1, 1, 0, 0, count, 0, b);
                reads("dy far off", -8, 1, 1, 1, 0, 15, count, 0, b);
            }
        }
        MaskDesk desk = new MaskDesk();
        fill(desk, 1, 1, 2, 15, 15, 2, 241, 241, 0, 15, 2, 15, 241, 0);
        expect.due("15 back and 15 on", desk.read(0), 4);
        expect.due("15 back and 15 on", desk.measure(0, 0), 4);
        expect.yes("15 back and 15 on", desk.filled(0, 0, 0) && desk.filled(0, 15, 0));
    }

    private static void readOnlyTheFirstFault() {
        reads("h, and then all", -2, 1, 0, 0, 99, 99, 0, 99, 99, 99);
        reads("dx, and then all", -7, 1, 1, 1, 0, 0, 2, 16, 99, 99, 99);
        reads("dy, and then all", -8, 1, 1, 1, 0, 0, 2, 15, 99, 99, 99);
        reads("in the second group", -9, 1, 1, 1, 0, 0, 1, 4, 5, 0, 0);
        reads("in the second line", -8, 4, 4, 2, 0, 0, 1, 12, 13, 1, 0);
    }

    /** "how many bytes there are, if only something is missing". */
    private static void readEachByteMissing() {
        int[] whole = {2, 3, 3, 1, 1, 3, 4, 0, 10, 12, 1, 14, 13, 2, 254, 255, 16, 16, 1, 0, 0, 1, 1, 1, 1, 15, 15, 2, 241, 241, 0};
        reads("whole", 3 + 1 + 2 + 1 + 2, whole);
        for (int n = 0; n < whole.length; n++) {
            reads("the first " + n, -1 - n, Arrays.copyOf(whole, n));
        }
    }

    private static void readBehindTheEnd() {
        for (int b = 0; b < 256; b++) {
            reads("behind an empty file", -2, 0, b);
            reads("behind a file", -8, 1, 1, 1, 0, 0, 1, 0, b);
        }
        reads("a file twice", -8, 1, 1, 1, 0, 0, 1, 0, 1, 1, 1, 0, 0, 1, 0);
    }

    /** Lines of 5 and of 3 bytes to just 400: a whole file, and one that only wants its end. */
    private static void readFourHundred() {
        for (int end = 0; end < 2; end++) {
            MaskDesk desk = new MaskDesk();
            int shortLines = end == 0 ? 2 : 2 + 1;
            int longLines = end == 0 ? 78 : 77;
            fill(desk, 1, 1, longLines + shortLines);
            for (int i = 0; i < longLines; i++) {
                fill(desk, i % 16, i / 16, 2, 0, 0);
            }
            for (int i = 0; i < shortLines; i++) {
                fill(desk, i, 15, 1);
            }
            if (end == 0) {
                fill(desk, 0);
                expect.due("400 bytes", desk.byteAt(-1), 400);
                expect.no("400 bytes", desk.put(0));
                expect.due("400 bytes", desk.read(0), 2 * longLines + shortLines);
                expect.due("400 bytes", desk.measure(0, 0), longLines + shortLines);
            } else {
                fill(desk, 1, 1, 1);
                expect.due("400 bytes", desk.byteAt(-1), 400);
                expect.due("400 bytes and something missing", desk.read(0), -401);
                expect.due("400 bytes and something missing", desk.measure(0, 0), 0);
            }
            expect.due("no bytes any more", desk.byteAt(-1), 0);
        }
        fourHundredWithAFault();
    }

    private static void fourHundredWithAFault() {
        MaskDesk desk = new MaskDesk();
        fill(desk, 1, 1, 255);
        for (int i = 0; i < 132; i++) {
            fill(desk, i % 16, i / 16, 1);
        }
        fill(desk, 16);
        expect.due("the last of 400 is the fault", desk.read(0), -400);
        expect.due("the last of 400 is the fault", desk.measure(0, 0), 0);
    }

    /** "how many these are (each of a line counts)", on one another too. */
    private static void readEachCounts() {
        reads("255 at one place", 255, 3, 3, 1, 13, 13, 255, 0, 0, 0);
        reads("255 three times", 765, 1, 1, 2, 0, 0, 255, 0, 0, 0, 0, 255, 0, 0, 1, 1, 1, 0, 0, 255, 0, 0, 0);
        MaskDesk desk = new MaskDesk();
        fill(desk, 1, 1, 1, 0, 0, 16, 1, 1, 2, 16, 1, 0, 0, 1, 16, 2, 1, 0, 0, 1, 0);
        expect.due("a slanted line, two bars", desk.read(0), 18);
        expect.due("a slanted line, two bars", desk.measure(0, 0), 32 + 28 + 14);
    }
}
