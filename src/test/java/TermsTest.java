/**
 * The document's terms, sentence by sentence, each with an example that was worked out by hand (the
 * other tests ask for more, and most of them for more at once). An order that shows in no answer is
 * not asked for: level chords among themselves, upright ones among themselves, and which of the
 * corners that are left is cut from first.
 */
public final class TermsTest {
    private static final Expect expect = new Expect("TermsTest");

    public static void main(String[] args) {
        plate();
        shapes();
        rectangle();
        points();
        ring();
        inside();
        grown();
        shrunk();
        partsHold();
        placement();
        turns();
        turnedWithinATurn();
        whatAPartHas();
        inwardCorner();
        levelChord();
        uprightChord();
        chordsAmidFilledCells();
        touchingAtAnEnd();
        touchingWithin();
        notTouching();
        greatestSet();
        levelBeforeUpright();
        cutToTheSideThatIsFilled();
        cutAsFarAsThereIsACut();
        piecesInTheirOrder();
        file();
        fileOnThePlate();
        fileOverlapsAndGroupsAgain();
        written();
        none();
        expect.finish();
    }

    /** "The PLATE has 16 by 16 CELLS x, y, each 0 .. 15". */
    private static void plate() {
        for (int i = 0; i < 18 * 18; i++) {
            int x = i % 18 - 1;
            int y = i / 18 - 1;
            boolean cell = Edges.within(x, 0, 15) && Edges.within(y, 0, 15);
            MaskDesk desk = new MaskDesk();
            expect.due("cell " + x + ", " + y, desk.rect(0, x, y, 1, 1), cell);
            expect.due("cell " + x + ", " + y, desk.filled(0, x, y), cell);
            expect.due("cell " + x + ", " + y, desk.measure(0, 0), cell ? 1 : 0);
        }
    }

    /** "SHAPES 0 .. 5, sets of cells, empty at first; .. all others are empty, those off the plate too". */
    private static void shapes() {
        MaskDesk desk = new MaskDesk();
        for (int s = 0; s < 6; s++) {
            expect.due("empty at first", desk.measure(s, 0), 0);
            expect.yes("a shape of its own", desk.rect(s, s, 0, 16 - s, 16));
        }
        for (int s = 0; s < 6; s++) {
            expect.due("a shape of its own", desk.measure(s, 0), 16 * (16 - s));
            expect.no("off the plate", desk.filled(s, 16, 3) || desk.filled(s, -1, 3));
            expect.no("off the plate", desk.filled(s, 8, 16) || desk.filled(s, 8, -1));
        }
        expect.yes("a cell that is there already", desk.rect(5, 9, 9, 1, 1));
        expect.due("a set has it once", desk.measure(5, 0), 176);
    }

    /** "has the cells x .. x + w - 1, y .. y + h - 1". */
    private static void rectangle() {
        MaskDesk desk = new MaskDesk();
        expect.yes("rect(0, 3, 1, 4, 2)", desk.rect(0, 3, 1, 4, 2));
        expect.shape("rect(0, 3, 1, 4, 2)", desk, 0,
            "...####",
            "...####",
            ".......");
    }

    private static void draw(MaskDesk desk, int... xy) {
        for (int i = 0; i < xy.length; i += 2) {
            expect.yes("point(" + xy[i] + ", " + xy[i + 1] + ")", desk.point(xy[i], xy[i + 1]));
        }
    }

    /** "cell x, y has the points x, y to x + 1, y + 1". */
    private static void points() {
        for (int i = 0; i < 256; i++) {
            int x = i % 16;
            int y = i / 16;
            MaskDesk desk = new MaskDesk();
            draw(desk, x, y, x + 1, y, x + 1, y + 1, x, y + 1);
            expect.yes("round cell " + x + ", " + y, desk.ring(0));
            expect.yes("round cell " + x + ", " + y, desk.filled(0, x, y));
            expect.due("round cell " + x + ", " + y, desk.measure(0, 0), 1);
        }
    }

    /** "just one of x and y is another one, x and y by turns (which of them first, may be)". */
    private static void ring() {
        MaskDesk desk = new MaskDesk();
        draw(desk, 2, 1, 5, 1, 5, 4, 2, 4);
        expect.yes("x first", desk.ring(0));
        draw(desk, 2, 1, 2, 4, 5, 4, 5, 1);
        expect.yes("y first", desk.ring(1));
        for (int s = 0; s < 2; s++) {
            expect.due("a ring", desk.measure(s, 0), 9);
        }
        draw(desk, 2, 1, 5, 1, 5, 4, 2, 3);
        expect.no("both are other ones", desk.ring(2));
        draw(desk, 2, 1, 5, 1, 5, 1, 2, 1);
        expect.no("none is another one", desk.ring(2));
        draw(desk, 2, 1, 4, 1, 5, 1, 5, 4, 3, 4, 2, 4);
        expect.no("not by turns", desk.ring(2));
        expect.due("no ring", desk.measure(2, 0), 0);
    }

    /** "an odd number of the ring's upright edges .. lie to the left of it and beside it". */
    private static void inside() {
        MaskDesk desk = new MaskDesk();
        draw(desk, 0, 0, 6, 0, 6, 4, 2, 4, 2, 2, 4, 2, 4, 6, 0, 6);
        expect.yes("a ring that crosses itself", desk.ring(0));
        expect.shape("a ring that crosses itself", desk, 0,
            "####",
            "####",
            "##..##",
            "##..##",
            "######",
            "######");
    }

    /** "at most r off in x and at most r off in y": corners of the square are grown too. */
    private static void grown() {
        MaskDesk desk = new MaskDesk();
        desk.rect(0, 3, 2, 1, 1);
        desk.rect(0, 8, 0, 1, 1);
        expect.yes("grown by 2", desk.size(1, 0, 2));
        expect.shape("grown by 2", desk, 1,
            ".#####.....",
            ".#####.....",
            ".##########",
            ".##########",
            ".##########");
    }

    /** "all cells at most r off in x and in y, also those off the plate, are filled". */
    private static void shrunk() {
        MaskDesk desk = new MaskDesk();
        Expect.draw(desk, 0,
            ".#####.",
            ".######",
            ".######",
            ".######",
            ".######",
            ".......");
        expect.yes("shrunk by 1", desk.size(1, 0, -1));
        expect.shape("shrunk by 1", desk, 1,
            ".......",
            "..###..",
            "..####.",
            "..####.",
            ".......",
            ".......");
        desk.rect(2, 12, 11, 4, 5);
        expect.yes("shrunk by 1 at the rim", desk.size(2, 2, -1));
        expect.due("shrunk by 1 at the rim", desk.measure(2, 0), 6);
        expect.yes("shrunk by 1 at the rim", desk.filled(2, 13, 12) && desk.filled(2, 14, 14));
        expect.no("the rim is beside what is off the plate", desk.filled(2, 15, 13) || desk.filled(2, 13, 15));
    }

    /** "PARTS are 0 .. 5, each with at most 6 rectangles and 4 PLACEMENTS". */
    private static void partsHold() {
        MaskDesk desk = new MaskDesk();
        for (int i = 1; i <= 7; i++) {
            expect.due("rectangle " + i, desk.box(5, i, 0, 1, 1), i <= 6);
        }
        for (int i = 1; i <= 5; i++) {
            expect.due("placement " + i, desk.place(5, 4, 1, 1), i <= 4);
        }
        desk.box(4, 0, 0, 1, 1);
        expect.due("6 and 4", desk.expand(0, 5, 0, 0), 10);
        expect.no("part 6", desk.box(6, 0, 0, 1, 1));
        expect.no("part -1", desk.box(-1, 0, 0, 1, 1));
        expect.no("d less than c", desk.place(3, 3, 1, 1) || desk.place(2, 3, 1, 1));
    }

    /** "turned, then moved by x + i * dx, y + j * dy (i below n, j below m)". */
    private static void placement() {
        MaskDesk desk = new MaskDesk();
        desk.box(0, 1, 0, 2, 1);
        expect.yes("at(7, 1, 1)", desk.at(7, 1, 1));
        expect.yes("steps(-3, 4)", desk.steps(-3, 4));
        expect.yes("2 by 3 copies", desk.place(1, 0, 2, 3));
        expect.due("2 by 3 copies", desk.expand(0, 1, 0, 0), 6);
        // Turned it has the cell -1, 1 and that above it.
        expect.shape("2 by 3 copies", desk, 0,
            "...#..#",
            "...#..#",
            ".......",
            ".......",
            "...#..#",
            "...#..#",
            ".......",
            ".......",
            "...#..#",
            "...#..#",
            ".......",
            ".......");
    }

    /** "A turn takes a point x, y to: 0 x, y; 1 -y, x; .."; "A rectangle is turned as its corner points are". */
    private static void turns() {
        // What becomes of the rectangle with the corner points 1, 2 and 4, 3.
        int[][] turned = {
            {1, 2, 3, 1}, {-3, 1, 1, 3}, {-4, -3, 3, 1}, {2, -4, 1, 3},
            {-4, 2, 3, 1}, {-3, -4, 1, 3}, {1, -3, 3, 1}, {2, 1, 1, 3},
        };
        for (int turn = 0; turn < 8; turn++) {
            MaskDesk desk = new MaskDesk();
            desk.box(0, 1, 2, 3, 1);
            desk.at(8, 8, turn);
            desk.place(1, 0, 1, 1);
            expect.due("turn " + turn, desk.expand(0, 1, 0, 0), 1);
            expect.due("turn " + turn, desk.split(0), 1);
            int[] piece = turned[turn];
            expect.items("turn " + turn, desk, 0, new int[] {8 + piece[0], 8 + piece[1], piece[2], piece[3]});
        }
    }

    /** "has all that d has, turned": copies within d too, with the place to which they were moved. */
    private static void turnedWithinATurn() {
        MaskDesk desk = new MaskDesk();
        desk.box(0, 0, 0, 2, 1);
        desk.at(3, 1, 1);
        desk.place(1, 0, 1, 1);
        desk.at(8, 4, 4);
        desk.place(2, 1, 1, 1);
        // In part 1 it lies at 2, 1, one wide and two high; mirrored at -3, 1; moved at 5, 5.
        expect.due("in part 1", desk.expand(0, 1, 0, 0), 1);
        expect.due("in part 2", desk.expand(1, 2, 0, 0), 1);
        desk.split(0);
        expect.items("in part 1", desk, 0, new int[] {2, 1, 1, 2});
        desk.split(1);
        expect.items("in part 2", desk, 0, new int[] {5, 5, 1, 2});
    }

    /** "its rectangles and those of all its copies, as they are when it is asked for". */
    private static void whatAPartHas() {
        MaskDesk desk = new MaskDesk();
        desk.box(1, 0, 0, 1, 1);
        desk.steps(0, 2);
        desk.place(1, 0, 1, 3);
        expect.due("before", desk.expand(0, 1, 0, 0), 1);
        desk.box(0, 2, 0, 1, 1);
        desk.box(0, 4, 0, 1, 1);
        expect.due("behind", desk.expand(0, 1, 0, 0), 7);
        desk.clear(0);
        expect.due("and back", desk.expand(0, 1, 0, 0), 1);
        expect.due("what was filled stays", desk.measure(0, 0), 7);
    }

    /** "a point of whose four cells exactly three are filled": all ways to fill the four. */
    private static void inwardCorner() {
        for (int cells = 0; cells < 16; cells++) {
            MaskDesk desk = new MaskDesk();
            for (int k = 0; k < 4; k++) {
                if ((cells >> k & 1) == 1) {
                    desk.rect(0, 7 + k % 2, 7 + k / 2, 1, 1);
                }
            }
            expect.due("cells " + cells, desk.measure(0, 3), Integer.bitCount(cells) == 3 ? 1 : 0);
        }
    }

    private static void corners(String what, int corners, int chords, String... rows) {
        MaskDesk desk = new MaskDesk();
        Expect.draw(desk, 0, rows);
        expect.due(what + ": inward corners", desk.measure(0, 3), corners);
        expect.due(what + ": chords", desk.measure(0, 4), chords);
    }

    /** "joins two inward corners with one y when each cell right above and right below the way between is filled". */
    private static void levelChord() {
        corners("between the sides of a bump", 2, 1, ".##.", "####");
        corners("above none is filled", 2, 0, "#..#", "####");
        corners("two bumps: not from one to the other", 4, 2, ".#.#.", "#####");
        corners("below one is missing: not over it", 4, 2, ".###.", "##.##");
        corners("not with one y", 2, 0, "..###", ".####", "#####");
    }

    /** "an UPRIGHT one two with one x, likewise with the cells right and left of it". */
    private static void uprightChord() {
        corners("between the sides of a bump", 2, 1, "#.", "##", "##", "#.");
        corners("right of it none is filled", 2, 0, "##", "#.", "#.", "##");
        corners("two bumps: not from one to the other", 4, 2, "#.", "##", "#.", "##", "#.");
        corners("not with one x", 2, 0, "#..", "##.", "###", "###");
    }

    /** "(So nothing but filled cells meets within a chord.)": none goes on over a corner to the next one. */
    private static void chordsAmidFilledCells() {
        corners("holes in a row", 12, 4, "#########", "##.#.#.##", "#########");
        corners("holes above one another", 8, 2, "###", "#.#", "###", "#.#", "###");
    }

    private static MaskDesk drawn(String... rows) {
        MaskDesk desk = new MaskDesk();
        Expect.draw(desk, 0, rows);
        return desk;
    }

    private static void pieces(String what, MaskDesk desk, int[]... want) {
        expect.due(what, desk.split(0), want.length);
        expect.items(what, desk, 0, want);
    }

    /** "A level and an upright chord TOUCH when they have a point in common, an end ..". */
    private static void touchingAtAnEnd() {
        MaskDesk desk = drawn(
            "..##.",
            "#####",
            "##...");
        expect.due("they meet at 2, 2", desk.measure(0, 4), 2);
        pieces("they meet at 2, 2: one is cut along", desk,
            new int[] {0, 0, 2, 1},
            new int[] {0, 1, 5, 1},
            new int[] {2, 2, 2, 1});
    }

    /** ".. or within". */
    private static void touchingWithin() {
        MaskDesk desk = drawn(
            ".##...",
            ".#####",
            ".#####",
            "#####.",
            "#####.",
            "...##.");
        expect.due("they meet at 3, 3", desk.measure(0, 4), 2);
        pieces("they meet at 3, 3: one is cut along", desk,
            new int[] {3, 0, 2, 1},
            new int[] {0, 1, 5, 2},
            new int[] {1, 3, 5, 2},
            new int[] {1, 5, 2, 1});
    }

    private static void notTouching() {
        MaskDesk desk = drawn(
            ".......#.",
            ".#.....##",
            "###....#.");
        expect.due("one in each of two islands", desk.measure(0, 4), 2);
        pieces("both are cut along", desk,
            new int[] {0, 0, 3, 1},
            new int[] {7, 0, 1, 3},
            new int[] {1, 1, 1, 1},
            new int[] {8, 1, 1, 1});
    }

    /** "A greatest set of chords of which no two touch is CHOSEN": upright ones left, level ones right. */
    private static void greatestSet() {
        MaskDesk desk = drawn(
            "......##.",
            ".##....##",
            "####...##",
            "#..#..##.");
        expect.due("two and one, one and two", desk.measure(0, 4), 6);
        pieces("four of six", desk,
            new int[] {0, 0, 1, 2},
            new int[] {3, 0, 1, 2},
            new int[] {6, 0, 2, 1},
            new int[] {1, 1, 2, 2},
            new int[] {7, 1, 2, 2},
            new int[] {6, 3, 2, 1});
    }

    /** "of several such sets the one that has .. the first chord in the order"; "level ones first". */
    private static void levelBeforeUpright() {
        MaskDesk desk = drawn(
            ".###.",
            "#####",
            "#####",
            "#####",
            ".###.");
        expect.due("two level ones, two upright ones", desk.measure(0, 4), 4);
        pieces("two level ones", desk,
            new int[] {1, 0, 3, 1},
            new int[] {0, 1, 5, 3},
            new int[] {1, 4, 3, 1});
    }

    /** "a level cut goes from it to that side, left or right, on which both cells beside the way are filled". */
    private static void cutToTheSideThatIsFilled() {
        pieces("to the left", drawn("###.", "####"), new int[] {0, 0, 4, 1}, new int[] {0, 1, 3, 1});
        pieces("to the right", drawn(".###", "####"), new int[] {0, 0, 4, 1}, new int[] {1, 1, 3, 1});
        pieces("to the left, from below", drawn("####", "###."), new int[] {0, 0, 3, 1}, new int[] {0, 1, 4, 1});
        pieces("to the right, from below", drawn("####", ".###"), new int[] {1, 0, 3, 1}, new int[] {0, 1, 4, 1});
        pieces("as long as that is so", drawn("###.###", "#######", "#######"),
            new int[] {0, 0, 7, 2}, new int[] {0, 2, 3, 1}, new int[] {4, 2, 3, 1});
    }

    /** "no farther than to the first point on its way .. at which there is a cut already". */
    private static void cutAsFarAsThereIsACut() {
        pieces("to the left as far as the upright cut", drawn(
            "...###.",
            "######.",
            "######.",
            "#######",
            "#######",
            "###...."),
            new int[] {0, 0, 3, 5}, new int[] {3, 1, 4, 2}, new int[] {3, 3, 3, 3});
        pieces("to the right as far as the upright cut", drawn(
            ".###...",
            ".######",
            ".######",
            "#######",
            "#######",
            "....###"),
            new int[] {4, 0, 3, 5}, new int[] {0, 1, 4, 2}, new int[] {1, 3, 3, 3});
    }

    /** "Their order is by y, then by x", of their first cells. */
    private static void piecesInTheirOrder() {
        pieces("by y, then by x", drawn(
            "#..#...",
            "#..#.##",
            "#......",
            "..##.#."),
            new int[] {2, 0, 2, 1}, new int[] {5, 0, 1, 1}, new int[] {0, 1, 1, 3},
            new int[] {3, 2, 1, 2}, new int[] {5, 2, 2, 1});
    }

    private static void fill(MaskDesk desk, int... bytes) {
        for (int b : bytes) {
            expect.yes("put(" + b + ")", desk.put(b));
        }
    }

    /** "GROUPS, one after the other, and then a 0"; "w, h .., how many lines it has .., and these"; "A LINE". */
    private static void file() {
        MaskDesk desk = new MaskDesk();
        fill(desk, 2, 1, 2);
        fill(desk, 0, 0, 3, 2, 3);
        fill(desk, 5, 7, 1);
        fill(desk, 1, 3, 1);
        fill(desk, 8, 0, 2, 255, 4);
        fill(desk, 0);
        expect.due("two groups, three lines", desk.read(0), 3 + 1 + 2);
        expect.shape("two groups, three lines", desk, 0,
            ".....##..",
            "....##.#.",
            ".......#.",
            ".......#.",
            "..##.....",
            "........#",
            "........#",
            "##......#");
    }

    private static void reads(String what, int want, int... bytes) {
        MaskDesk desk = new MaskDesk();
        fill(desk, bytes);
        expect.due(what, desk.read(0), want);
    }

    /** "a byte with which one does not, x, y, or the step by which the last one does not". */
    private static void fileOnThePlate() {
        reads("to the rim", 3, 3, 2, 1, 13, 14, 3, 251, 249, 0);
        reads("x", -1 - 3, 3, 2, 1, 14, 14, 3, 251, 249, 0);
        reads("y", -1 - 4, 3, 2, 1, 13, 15, 3, 251, 249, 0);
        reads("the step in x", -1 - 6, 3, 2, 1, 13, 14, 3, 249, 249, 0);
        reads("the step in y", -1 - 7, 3, 2, 1, 13, 14, 3, 250, 248, 0);
    }

    /** "Rectangles may overlap, groups may come in any order and again." */
    private static void fileOverlapsAndGroupsAgain() {
        MaskDesk desk = new MaskDesk();
        fill(desk, 2, 2, 1, 0, 0, 1, 1, 1, 1, 1, 1, 1, 2, 2, 1, 1, 1, 1, 0);
        expect.due("2 by 2, 1 by 1, 2 by 2 again", desk.read(0), 3);
        expect.shape("2 by 2, 1 by 1, 2 by 2 again", desk, 0,
            ".##",
            "###",
            "##.");
    }

    /** "a group for each w and h that there are, by w, then by h; in it the pieces in their order: ..". */
    private static void written() {
        MaskDesk desk = drawn(
            "...............#",
            "...............#",
            "................",
            ".#........#.....",
            "................",
            "#..#..#.....##..");
        expect.due("pieces", desk.split(0), 7);
        expect.due("written", desk.write(), 26);
        expect.bytes("written", desk,
            1, 1, 2, 0, 0, 3, 3, 0, 1, 2, 2, 9, 0,
            1, 2, 1, 15, 4, 1,
            2, 1, 1, 12, 0, 1,
            0);
    }

    /** "NONE = -1000: Refused, or nothing there." */
    private static void none() {
        expect.due("NONE", MaskDesk.NONE, -1000);
        MaskDesk desk = new MaskDesk();
        expect.due("refused", desk.check(0, 0, 17), -1000);
        expect.due("nothing there", desk.item(0, 0, 0), -1000);
        expect.due("nothing there", desk.byteAt(0), -1000);
    }
}
