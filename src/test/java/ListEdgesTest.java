/** The boundary cases of promises 14 to 17, measure, check, split and item: one test a sentence. */
public final class ListEdgesTest {
    private static final Expect expect = new Expect("ListEdgesTest");
    private static final Refusals refusals = Refusals.onBusyDesk(expect);
    private static final int[] SHAPES = {0, 5};

    public static void main(String[] args) {
        measureBounds();
        measureOfEmptyAndFull();
        oneCellEverywhere();
        oneHoleEverywhere();
        holesOpenToTheRim();
        islandsDoNotWrapAround();
        holesDoNotWrapAround();
        holesAsLargeAsCanBe();
        cornersEverywhere();
        checkBounds();
        checkOfEmptyAndFull();
        narrowOfEachLength();
        nearOfEachLength();
        nearWithOneEnd();
        checkReplacesFaults();
        splitBounds();
        splitOfEmptyAndFull();
        chordsUpToFourteen();
        chordsFarBeyondFourteen();
        splitReplacesPieces();
        itemBounds();
        itemOfEmptyLists();
        itemOfTheLongestLists();
        piecesStayWhateverComes();
        piecesAndFaultsAreApart();
        askingChangesNothing();
        expect.finish();
    }

    // Promise 14: "NONE for no such shape or what".

    private static void measureBounds() {
        Refusals.Call measure = (desk, a) -> desk.measure(a[0], a[1]);
        refusals.bounds("measure", measure, new int[] {0, 0}, SHAPES, new int[] {0, 4});
        refusals.bounds("measure", measure, new int[] {5, 4}, SHAPES, new int[] {0, 4});
    }

    private static void measured(String what, MaskDesk desk, int s, int... want) {
        for (int i = 0; i < want.length; i++) {
            expect.due(what + ": measure(" + s + ", " + i + ")", desk.measure(s, i), want[i]);
        }
    }

    private static void measureOfEmptyAndFull() {
        for (int s = 0; s < 6; s++) {
            MaskDesk desk = new MaskDesk();
            measured("empty", desk, s, 0, 0, 0, 0, 0);
            desk.rect(s, 0, 0, 16, 16);
            measured("full", desk, s, 256, 1, 0, 0, 0);
        }
    }

    private static void oneCellEverywhere() {
        for (int i = 0; i < 256; i++) {
            MaskDesk desk = new MaskDesk();
            desk.rect(0, i % 16, i / 16, 1, 1);
            measured("cell " + i, desk, 0, 1, 1, 0, 0, 0);
        }
    }

    /** "but not to cells off the plate": the rim's cells are, by an edge or by a corner. */
    private static void oneHoleEverywhere() {
        for (int i = 0; i < 256; i++) {
            int x = i % 16;
            int y = i / 16;
            MaskDesk desk = new MaskDesk();
            desk.rect(0, 0, 0, 16, 16);
            desk.rect(1, x, y, 1, 1);
            desk.join(0, 0, 1, 2);
            boolean sideRim = x == 0 || x == 15;
            boolean lowRim = y == 0 || y == 15;
            int corners = sideRim && lowRim ? 1 : sideRim || lowRim ? 2 : 4;
            measured("all but cell " + i, desk, 0, 255, 1, sideRim || lowRim ? 0 : 1, corners, 0);
        }
    }

    /** Joined to the rim over one cell, by an edge or by a corner, at each of the four sides. */
    private static void holesOpenToTheRim() {
        for (int i = 1; i < 15; i++) {
            for (int aside = -1; aside <= 1; aside++) {
                int[][] pairs = {
                    {i, 1, i + aside, 0}, {i, 14, i + aside, 15}, {1, i, 0, i + aside}, {14, i, 15, i + aside},
                };
                for (int[] pair : pairs) {
                    MaskDesk desk = new MaskDesk();
                    desk.rect(0, 0, 0, 16, 16);
                    desk.rect(1, pair[0], pair[1], 1, 1);
                    desk.join(2, 0, 1, 2);
                    expect.due("within the rim", desk.measure(2, 2), 1);
                    desk.rect(1, pair[2], pair[3], 1, 1);
                    desk.join(2, 0, 1, 2);
                    expect.due("open to the rim", desk.measure(2, 2), 0);
                    expect.due("open to the rim", desk.measure(2, 1), 1);
                }
            }
        }
    }

    private static void islandsDoNotWrapAround() {
        for (int i = 0; i < 15; i++) {
            MaskDesk desk = new MaskDesk();
            desk.rect(0, 15, i, 1, 1);
            desk.rect(0, 0, i + 1, 1, 1);
            expect.due("the end of a row and the next row's start", desk.measure(0, 1), 2);
            desk.rect(1, 15, i, 1, 1);
            desk.rect(1, 0, i, 1, 1);
            expect.due("both ends of a row", desk.measure(1, 1), 2);
            desk.rect(2, i, 15, 1, 1);
            desk.rect(2, i, 0, 1, 1);
            expect.due("both ends of a column", desk.measure(2, 1), 2);
            desk.rect(3, i, i, 1, 1);
            desk.rect(3, i + 1, i + 1, 1, 1);
            expect.due("cells that meet at a corner", desk.measure(3, 1), 2);
            desk.rect(4, i, i, 1, 1);
            desk.rect(4, i + 1, i, 1, 1);
            expect.due("cells that meet at an edge", desk.measure(4, 1), 1);
        }
    }

    private static void holesDoNotWrapAround() {
        for (int i = 2; i < 13; i++) {
            MaskDesk desk = new MaskDesk();
            desk.rect(0, 0, 0, 16, 16);
            desk.rect(1, 14, i, 1, 1);
            desk.rect(1, 1, i, 1, 1);
            desk.rect(1, 1, i + 1, 1, 1);
            desk.rect(1, 14, i - 1, 1, 1);
            desk.join(2, 0, 1, 2);
            expect.due("holes at both ends of a row", desk.measure(2, 2), 2);
            desk.rect(3, 7, 1, 1, 1);
            desk.rect(3, 7, 14, 1, 1);
            desk.join(4, 0, 3, 2);
            expect.due("holes at both ends of a column", desk.measure(4, 2), 2);
            desk.rect(5, i, i, 1, 1);
            desk.rect(5, i + 1, i - 1, 1, 1);
            desk.join(5, 0, 5, 2);
            expect.due("holes that meet at a corner", desk.measure(5, 2), 1);
        }
    }

    private static void holesAsLargeAsCanBe() {
        MaskDesk desk = new MaskDesk();
        desk.rect(0, 0, 0, 16, 16);
        desk.rect(1, 1, 1, 14, 14);
        desk.join(0, 0, 1, 2);
        measured("a frame at the rim", desk, 0, 60, 1, 1, 4, 0);
        desk.rect(2, 15, 15, 1, 1);
        desk.join(3, 0, 2, 2);
        measured("a corner of it opens the hole", desk, 3, 59, 1, 0, 3, 0);
        desk.rect(0, 2, 2, 12, 12);
        measured("an island in the hole", desk, 0, 204, 2, 1, 4, 0);
    }

    /** Three of four cells about each point, in each of the four ways: one inward corner. */
    private static void cornersEverywhere() {
        for (int i = 0; i < 225; i++) {
            int x = i % 15;
            int y = i / 15;
            for (int open = 0; open < 4; open++) {
                MaskDesk desk = new MaskDesk();
                for (int k = 0; k < 4; k++) {
                    if (k != open) {
                        desk.rect(0, x + k % 2, y + k / 2, 1, 1);
                    }
                }
                measured("an L at " + x + ", " + y, desk, 0, 3, 1, 0, 1, 0);
                expect.due("an L at " + x + ", " + y, desk.split(0), 2);
                desk.rect(0, x + open % 2, y + open / 2, 1, 1);
                measured("a square at " + x + ", " + y, desk, 0, 4, 1, 0, 0, 0);
            }
        }
    }

    // Promise 15: "NONE, refused, if there is no such shape or kind, or w is not 1 .. 16".

    private static void checkBounds() {
        Refusals.Call check = (desk, a) -> desk.check(a[0], a[1], a[2]);
        refusals.bounds("check", check, new int[] {3, 0, 5}, SHAPES, new int[] {0, 1}, new int[] {1, 16});
        refusals.bounds("check", check, new int[] {0, 1, 16}, SHAPES, new int[] {0, 1}, new int[] {1, 16});
    }

    private static void checkOfEmptyAndFull() {
        for (int i = 0; i < 64; i++) {
            int w = i % 16 + 1;
            int kind = i / 16 % 2;
            MaskDesk desk = new MaskDesk();
            if (i >= 32) {
                desk.rect(0, 0, 0, 16, 16);
            }
            expect.due("check(0, " + kind + ", " + w + ")", desk.check(0, kind, w), 0);
            expect.none("no faults", desk.item(1, 0, 0));
        }
    }

    /** "shorter than w": each length beside each w, along x and along y, at both rims and amid. */
    private static void narrowOfEachLength() {
        for (int i = 0; i < 256; i++) {
            int length = i % 16 + 1;
            int w = i / 16 + 1;
            int due = (length < w ? 1 : 0) + (w > 1 ? length : 0);
            for (int start : new int[] {0, (16 - length) / 2, 16 - length}) {
                MaskDesk desk = new MaskDesk();
                String what = length + " from " + start + ", w " + w;
                desk.rect(0, start, 9, length, 1);
                desk.rect(1, 9, start, 1, length);
                expect.due(what + ": level", desk.check(0, 0, w), due);
                if (length < w) {
                    expect.due(what + ": level: x", desk.item(1, 0, 0), start);
                    expect.due(what + ": level: y", desk.item(1, 0, 1), 9);
                    expect.due(what + ": level: length", desk.item(1, 0, 2), length);
                    expect.due(what + ": level", desk.item(1, 0, 3), 0);
                }
                expect.due(what + ": upright", desk.check(1, 0, w), due);
                if (length < w) {
                    expect.due(what + ": upright: x", desk.item(1, due - 1, 0), 9);
                    expect.due(what + ": upright: y", desk.item(1, due - 1, 1), start);
                    expect.due(what + ": upright: length", desk.item(1, due - 1, 2), length);
                    expect.due(what + ": upright", desk.item(1, due - 1, 3), 1);
                }
                expect.none(what + ": behind the last", desk.item(1, due, 0));
            }
        }
    }

    private static void nearOfEachLength() {
        for (int i = 0; i < 14 * 16; i++) {
            int gap = i % 14 + 1;
            int w = i / 14 + 1;
            for (int start : new int[] {1, 15 - gap}) {
                MaskDesk desk = new MaskDesk();
                String what = "a gap of " + gap + " from " + start + ", w " + w;
                desk.rect(0, start - 1, 15, 1, 1);
                desk.rect(0, start + gap, 15, 1, 1);
                desk.rect(1, 0, start - 1, 1, 1);
                desk.rect(1, 0, start + gap, 1, 1);
                expect.due(what + ": level", desk.check(0, 1, w), gap < w ? 1 : 0);
                faultIs(what, desk, gap < w, start, 15, gap, 0);
                expect.due(what + ": upright", desk.check(1, 1, w), gap < w ? 1 : 0);
                faultIs(what, desk, gap < w, 0, start, gap, 1);
            }
        }
    }

    private static void faultIs(String what, MaskDesk desk, boolean there, int... fields) {
        for (int field = 0; field < 4; field++) {
            expect.due(what + ": field " + field, desk.item(1, 0, field), there ? fields[field] : MaskDesk.NONE);
        }
    }

    /** "have a filled cell at both ends": what is off the plate is empty. */
    private static void nearWithOneEnd() {
        for (int i = 0; i < 256; i++) {
            MaskDesk desk = new MaskDesk();
            desk.rect(0, i % 16, i / 16, 1, 1);
            expect.due("one cell alone, at " + i, desk.check(0, 1, 16), 0);
        }
        MaskDesk desk = new MaskDesk();
        desk.rect(0, 1, 1, 14, 14);
        expect.due("all but the rim", desk.check(0, 1, 16), 0);
        desk.rect(1, 15, 3, 1, 1);
        desk.rect(1, 0, 4, 1, 1);
        expect.due("the end of a row and the next row's start", desk.check(1, 1, 16), 0);
    }

    private static void checkReplacesFaults() {
        MaskDesk desk = new MaskDesk();
        desk.rect(0, 2, 2, 1, 1);
        desk.rect(0, 5, 2, 1, 1);
        expect.due("check", desk.check(0, 0, 2), 4);
        expect.due("check", desk.check(0, 1, 3), 1);
        expect.items("the gap alone", desk, 1, new int[] {3, 2, 2, 0});
        expect.none("refused", desk.check(0, 1, 0));
        expect.none("refused", desk.check(0, 2, 3));
        expect.none("refused", desk.check(6, 1, 3));
        expect.items("the gap alone, as before", desk, 1, new int[] {3, 2, 2, 0});
        expect.due("check", desk.check(1, 0, 2), 0);
        expect.none("none any more", desk.item(1, 0, 0));
    }

    // Promise 16: "NONE, refused, if there is no such shape, or it has more than 14 chords".

    private static void splitBounds() {
        refusals.bounds("split", (desk, a) -> desk.split(a[0]), new int[] {2}, SHAPES);
    }

    private static void splitOfEmptyAndFull() {
        for (int s = 0; s < 6; s++) {
            MaskDesk desk = new MaskDesk();
            expect.due("split an empty one", desk.split(s), 0);
            expect.none("no piece", desk.item(0, 0, 0));
            desk.rect(s, 0, 0, 16, 16);
            expect.due("split a full one", desk.split(s), 1);
            expect.items("one piece", desk, 0, new int[] {0, 0, 16, 16});
            desk.join(s, s, s, 3);
            expect.due("split an empty one again", desk.split(s), 0);
            expect.none("no piece any more", desk.item(0, 0, 0));
        }
    }

    /** Blocks of a bar and a bump, with a chord each, level or upright; there is room for 16. */
    private static void drawBlocks(MaskDesk desk, int s, int level, int upright) {
        for (int k = 0; k < level + upright; k++) {
            int x = k % 4 * 4;
            int y = k / 4 * 4;
            boolean lies = k < level;
            desk.rect(s, x, y, lies ? 3 : 1, lies ? 1 : 3);
            desk.rect(s, x + 1, y + 1, 1, 1);
        }
    }

    private static void chordsUpToFourteen() {
        for (int chords = 0; chords <= 16; chords++) {
            for (int level = 0; level <= chords; level++) {
                MaskDesk desk = new MaskDesk();
                drawBlocks(desk, 4, level, chords - level);
                String what = level + " level chords of " + chords;
                expect.due(what, desk.measure(4, 4), chords);
                expect.due(what, desk.split(4), chords > 14 ? MaskDesk.NONE : chords * 2);
                expect.due(what, desk.item(0, chords * 2 - 1, 2) != MaskDesk.NONE, chords > 0 && chords <= 14);
            }
        }
        for (int level : new int[] {0, 7, 15}) {
            Refusals many = Refusals.onBusyDesk(expect, desk -> {
                desk.join(5, 5, 5, 3);
                drawBlocks(desk, 5, level, 15 - level);
            });
            many.taken("split", (desk, a) -> desk.split(a[0]), 4);
            many.refused("split", (desk, a) -> desk.split(a[0]), 5);
        }
    }

    /** 5 by 4 holes have 62 chords between them; a fine grid of 7 by 7 has 168. */
    private static void chordsFarBeyondFourteen() {
        int[][] grids = {{5, 4, 3, 62}, {7, 7, 2, 168}};
        for (int[] grid : grids) {
            MaskDesk desk = new MaskDesk();
            desk.rect(1, 3, 3, 2, 2);
            desk.split(1);
            desk.rect(0, 0, 0, 16, 16);
            for (int i = 0; i < grid[0] * grid[1]; i++) {
                desk.rect(2, i % grid[0] * grid[2] + 1, i / grid[0] * grid[2] + 1, 1, 1);
            }
            desk.join(0, 0, 2, 2);
            expect.due("a grid of holes", desk.measure(0, 2), grid[0] * grid[1]);
            expect.due("a grid of holes", desk.measure(0, 4), grid[3]);
            expect.none("a grid of holes", desk.split(0));
            expect.items("the latest pieces stay", desk, 0, new int[] {3, 3, 2, 2});
            expect.due("they are what is written", desk.write(), 7);
        }
    }

    private static void splitReplacesPieces() {
        MaskDesk desk = new MaskDesk();
        drawBlocks(desk, 0, 3, 0);
        expect.due("split", desk.split(0), 6);
        desk.rect(1, 4, 5, 6, 7);
        expect.due("split another one", desk.split(1), 1);
        expect.items("its piece alone", desk, 0, new int[] {4, 5, 6, 7});
        drawBlocks(desk, 2, 15, 0);
        expect.none("refused", desk.split(2));
        expect.none("refused", desk.split(-1));
        expect.none("refused", desk.split(6));
        expect.items("its piece alone, as before", desk, 0, new int[] {4, 5, 6, 7});
    }

    // Promise 17: "NONE if there is no such list, piece, fault or field".

    private static void itemBounds() {
        Refusals.Call item = (desk, a) -> desk.item(a[0], a[1], a[2]);
        Refusals some = Refusals.onBusyDesk(expect, desk -> {
            desk.join(5, 5, 5, 3);
            for (int i = 0; i < 3; i++) {
                desk.rect(5, i * 4, 3, 1, 1);
            }
            desk.split(5);
            desk.check(5, 0, 2);
        });
        int[] lists = {0, 1};
        int[] fields = {0, 3};
        some.bounds("item", item, new int[] {0, 1, 2}, lists, new int[] {0, 2}, fields);
        some.bounds("item", item, new int[] {1, 2, 0}, lists, new int[] {0, 5}, fields);
    }

    private static void itemOfEmptyLists() {
        for (int list = 0; list < 2; list++) {
            for (int i : new int[] {0, 1, 255, 256, -1, Integer.MAX_VALUE, Integer.MIN_VALUE}) {
                for (int field = 0; field < 4; field++) {
                    expect.none("item(" + list + ", " + i + ", " + field + ")", new MaskDesk().item(list, i, field));
                }
            }
        }
    }

    private static void itemOfTheLongestLists() {
        MaskDesk desk = new MaskDesk();
        Expect.drawCheckerboard(desk, 0);
        expect.due("as many pieces as can be", desk.split(0), 128);
        expect.due("the last one", desk.item(0, 127, 0), 15);
        expect.due("the last one", desk.item(0, 127, 1), 15);
        expect.due("the last one", desk.item(0, 127, 2), 1);
        expect.due("the last one", desk.item(0, 127, 3), 1);
        expect.none("behind the last one", desk.item(0, 128, 0));
        expect.due("as many faults as can be", desk.check(0, 0, 16), 256);
        for (int i = 0; i < 256; i += 5) {
            boolean level = i < 128;
            int line = i % 128 / 8;
            int across = i % 8 * 2 + line % 2;
            expect.due("fault " + i, desk.item(1, i, 0), level ? across : line);
            expect.due("fault " + i, desk.item(1, i, 1), level ? line : across);
            expect.due("fault " + i, desk.item(1, i, 2), 1);
            expect.due("fault " + i, desk.item(1, i, 3), level ? 0 : 1);
        }
        expect.none("behind the last one", desk.item(1, 256, 0));
    }

    /** "these are the latest ones from now on, whatever comes to the shape"; so are the faults. */
    private static void piecesStayWhateverComes() {
        for (int way = 0; way < 7; way++) {
            MaskDesk desk = new MaskDesk();
            desk.rect(0, 2, 3, 4, 5);
            expect.due("split", desk.split(0), 1);
            expect.due("check", desk.check(0, 0, 5), 5);
            change(desk, way);
            expect.no("way " + way + " changes the shape", desk.measure(0, 0) == 20);
            expect.items("way " + way, desk, 0, new int[] {2, 3, 4, 5});
            for (int i = 0; i < 5; i++) {
                expect.due("way " + way, desk.item(1, i, 0), 2);
                expect.due("way " + way, desk.item(1, i, 1), 3 + i);
                expect.due("way " + way, desk.item(1, i, 2), 4);
            }
            expect.none("way " + way, desk.item(1, 5, 0));
            expect.due("way " + way, desk.write(), 7);
            expect.bytes("way " + way, desk, 4, 5, 1, 2, 3, 1, 0);
        }
    }

    private static void change(MaskDesk desk, int way) {
        switch (way) {
            case 0:
                expect.yes("rect", desk.rect(0, 0, 0, 9, 9));
                break;
            case 1:
                Refusals.drawThreePoints(desk);
                desk.point(1, 4);
                expect.yes("ring", desk.ring(0));
                break;
            case 2:
                expect.yes("join", desk.join(0, 0, 0, 3));
                break;
            case 3:
                expect.yes("size", desk.size(0, 0, 1));
                break;
            case 4:
                expect.yes("size", desk.size(0, 0, -1));
                break;
            case 5:
                desk.box(0, 0, 0, 1, 1);
                expect.due("expand", desk.expand(0, 0, 0, 0), 1);
                break;
            default:
                desk.put(0);
                expect.due("read", desk.read(0), 0);
                break;
        }
    }

    private static void piecesAndFaultsAreApart() {
        MaskDesk desk = new MaskDesk();
        desk.rect(0, 2, 3, 4, 5);
        desk.rect(1, 9, 9, 1, 1);
        desk.split(0);
        expect.none("pieces are no faults", desk.item(1, 0, 0));
        desk.check(1, 0, 2);
        expect.items("check leaves the pieces", desk, 0, new int[] {2, 3, 4, 5});
        desk.split(2);
        expect.none("no pieces", desk.item(0, 0, 0));
        expect.items("split leaves the faults", desk, 1, new int[] {9, 9, 1, 0}, new int[] {9, 9, 1, 1});
        desk.write();
        desk.read(0);
        expect.items("so do write and read", desk, 1, new int[] {9, 9, 1, 0}, new int[] {9, 9, 1, 1});
    }

    /** Calls that only tell what there is, within their bounds. */
    private static void askingChangesNothing() {
        for (int what = 0; what < 5; what++) {
            refusals.asked("measure", (desk, a) -> desk.measure(a[0], a[1]), 3, what);
            refusals.asked("measure", (desk, a) -> desk.measure(a[0], a[1]), 5, what);
        }
        for (int i = -1; i < 3; i++) {
            refusals.asked("byteAt", (desk, a) -> desk.byteAt(a[0]), i);
            refusals.asked("item", (desk, a) -> desk.item(a[0], a[1], a[2]), 0, i, 3);
            refusals.asked("item", (desk, a) -> desk.item(a[0], a[1], a[2]), 1, i, 0);
            refusals.asked("filled", (desk, a) -> Refusals.told(desk.filled(a[0], a[1], a[2])), 0, i, 2);
        }
    }
}
