/** Promises 7 to 12: box, at, steps, place, clear, expand. */
public final class PartsTest {
    private static final Expect expect = new Expect("PartsTest");

    public static void main(String[] args) {
        boxes();
        boxesRefused();
        turns();
        turnsOfTurns();
        placesAndSteps();
        placesRefused();
        laterBoxes();
        clearing();
        atMost200();
        manyCopiesOfNothing();
        expandsRefused();
        expect.finish();
    }

    private static void boxes() {
        MaskDesk desk = new MaskDesk();
        expect.yes("box", desk.box(0, -16, -16, 16, 16));
        expect.due("expand moves", desk.expand(0, 0, 16, 16), 1);
        expect.due("expand moves", desk.measure(0, 0), 256);
        for (int i = 1; i < 6; i++) {
            expect.yes("box " + i, desk.box(0, -16, -16, 1, i));
        }
        expect.no("box 7 of a part", desk.box(0, 0, 0, 1, 1));
        expect.due("expand counts what overlaps", desk.expand(1, 0, 16, 16), 6);
        expect.yes("box at the other end", desk.box(5, 16, 16, 1, 1));
        expect.due("expand moves back", desk.expand(2, 5, -16, -16), 1);
        expect.yes("expand moves back", desk.filled(2, 0, 0));
    }

    private static void boxesRefused() {
        MaskDesk desk = new MaskDesk();
        expect.no("box c -1", desk.box(-1, 0, 0, 1, 1));
        expect.no("box c 6", desk.box(6, 0, 0, 1, 1));
        expect.no("box x -17", desk.box(0, -17, 0, 1, 1));
        expect.no("box x 17", desk.box(0, 17, 0, 1, 1));
        expect.no("box y -17", desk.box(0, 0, -17, 1, 1));
        expect.no("box y 17", desk.box(0, 0, 17, 1, 1));
        expect.no("box w 0", desk.box(0, 0, 0, 0, 1));
        expect.no("box w 17", desk.box(0, 0, 0, 17, 1));
        expect.no("box h 0", desk.box(0, 0, 0, 1, 0));
        expect.no("box h 17", desk.box(0, 0, 0, 1, 17));
        expect.due("box refused changes nothing", desk.expand(0, 0, 0, 0), 0);
    }

    /** An L of three cells and a foot, so that no two turns look the same. */
    private static MaskDesk withLetter() {
        MaskDesk desk = new MaskDesk();
        desk.box(0, 0, 0, 1, 3);
        desk.box(0, 1, 0, 1, 1);
        return desk;
    }

    /** The letter with its corner point at 3, 3, for each turn: worked out by hand. */
    private static final String[][] TURNED = {
        {"...#..", "...#..", "...##.", "......", "......", "......"},
        {"......", "..#...", "###...", "......", "......", "......"},
        {"......", "......", "......", ".##...", "..#...", "..#..."},
        {"......", "......", "......", "...###", "...#..", "......"},
        {"..#...", "..#...", ".##...", "......", "......", "......"},
        {"......", "......", "......", "###...", "..#...", "......"},
        {"......", "......", "......", "...##.", "...#..", "...#.."},
        {"......", "...#..", "...###", "......", "......", "......"},
    };

    private static void turns() {
        for (int turn = 0; turn < 8; turn++) {
            MaskDesk desk = withLetter();
            expect.yes("at", desk.at(3, 3, turn));
            expect.yes("place", desk.place(1, 0, 1, 1));
            expect.due("expand, turn " + turn, desk.expand(0, 1, 0, 0), 2);
            expect.shape("turn " + turn, desk, 0, TURNED[turn]);
        }
    }

    /** A turn within a turn is done first; each move is turned by what comes behind it. */
    private static void turnsOfTurns() {
        for (int inner = 0; inner < 8; inner++) {
            for (int outer = 0; outer < 8; outer++) {
                Pair pair = new Pair(expect, "turn " + inner + " in turn " + outer);
                pair.box(0, 0, 0, 1, 3);
                pair.box(0, 1, 0, 1, 1);
                pair.at(1, 2, inner);
                pair.steps(2, -3);
                pair.place(1, 0, 2, 1);
                pair.at(-1, 1, outer);
                pair.place(2, 1, 1, 2);
                expect.due("they lie on the plate", pair.expand(0, 2, 8, 8), 8);
                for (int i = 0; i < 256; i++) {
                    pair.filled(0, i % 16, i / 16);
                }
            }
        }
    }

    private static void placesAndSteps() {
        MaskDesk desk = new MaskDesk();
        desk.box(0, 0, 0, 1, 1);
        expect.yes("place with what is there at first", desk.place(1, 0, 2, 2));
        expect.due("place with no steps", desk.expand(0, 1, 3, 3), 4);
        expect.due("place with no steps", desk.measure(0, 0), 1);
        expect.yes("place with no steps", desk.filled(0, 3, 3));
        expect.yes("at", desk.at(1, 0, 0));
        expect.yes("steps", desk.steps(2, 3));
        expect.yes("place", desk.place(2, 0, 4, 2));
        expect.due("expand", desk.expand(1, 2, 0, 0), 8);
        expect.shape("n goes with dx, m with dy", desk, 1,
            ".#.#.#.#",
            "........",
            "........",
            ".#.#.#.#");
        expect.yes("steps -16", desk.steps(-16, -16));
        expect.yes("steps 16", desk.steps(16, 16));
        expect.yes("steps below 0", desk.steps(-15, -1));
        expect.yes("at -16", desk.at(-16, -16, 7));
        expect.yes("at 16", desk.at(16, 16, 0));
        expect.yes("place", desk.place(3, 0, 2, 4));
        expect.due("expand", desk.expand(2, 3, -1, -1), 8);
        expect.due("expand", desk.measure(2, 0), 8);
    }

    private static void placesRefused() {
        MaskDesk desk = new MaskDesk();
        desk.box(0, 0, 0, 1, 1);
        desk.at(2, 3, 0);
        desk.steps(1, 1);
        expect.no("at x 17", desk.at(17, 0, 0));
        expect.no("at x -17", desk.at(-17, 0, 0));
        expect.no("at y 17", desk.at(0, 17, 0));
        expect.no("at y -17", desk.at(0, -17, 0));
        expect.no("at turn 8", desk.at(0, 0, 8));
        expect.no("at turn -1", desk.at(0, 0, -1));
        expect.no("steps 17", desk.steps(17, 0));
        expect.no("steps -17", desk.steps(-17, 0));
        expect.no("steps 0, 17", desk.steps(0, 17));
        expect.no("steps 0, -17", desk.steps(0, -17));
        expect.no("place c 6", desk.place(6, 0, 1, 1));
        expect.no("place c -1", desk.place(-1, 0, 1, 1));
        expect.no("place d -1", desk.place(1, -1, 1, 1));
        expect.no("place d 6", desk.place(1, 6, 1, 1));
        expect.no("place in itself", desk.place(1, 1, 1, 1));
        expect.no("place of a later part", desk.place(1, 2, 1, 1));
        expect.no("place n 0", desk.place(1, 0, 0, 1));
        expect.no("place n 5", desk.place(1, 0, 5, 1));
        expect.no("place m 0", desk.place(1, 0, 1, 0));
        expect.no("place m 5", desk.place(1, 0, 1, 5));
        expect.due("place refused changes nothing", desk.expand(0, 1, 0, 0), 0);
        for (int i = 0; i < 4; i++) {
            expect.yes("place " + i, desk.place(1, 0, 1, 1));
        }
        expect.no("place 5 in a part", desk.place(1, 0, 1, 1));
        expect.due("at and steps refused change nothing", desk.expand(0, 1, 0, 0), 4);
        expect.yes("at refused changes nothing", desk.filled(0, 2, 3));
        expect.due("at refused changes nothing", desk.measure(0, 0), 1);
    }

    private static void laterBoxes() {
        MaskDesk desk = new MaskDesk();
        desk.place(1, 0, 1, 1);
        desk.place(2, 1, 1, 1);
        expect.due("nothing yet", desk.expand(0, 2, 0, 0), 0);
        desk.box(0, 4, 4, 1, 1);
        expect.due("what came behind the placement", desk.expand(0, 2, 0, 0), 1);
        desk.at(5, 5, 2);
        desk.steps(3, 3);
        expect.due("at and steps are the placement's own", desk.expand(0, 2, 0, 0), 1);
        expect.due("at and steps are the placement's own", desk.measure(0, 0), 1);
    }

    private static void clearing() {
        MaskDesk desk = new MaskDesk();
        desk.box(0, 0, 0, 1, 1);
        desk.box(1, 1, 1, 1, 1);
        desk.at(2, 2, 0);
        desk.steps(1, 0);
        desk.place(1, 0, 1, 1);
        desk.place(2, 1, 1, 1);
        expect.no("clear c 6", desk.clear(6));
        expect.no("clear c -1", desk.clear(-1));
        expect.due("clear refused changes nothing", desk.expand(0, 2, 0, 0), 2);
        expect.yes("clear", desk.clear(1));
        expect.due("clear takes boxes and placements", desk.expand(0, 1, 0, 0), 0);
        expect.due("what is placed is empty now", desk.expand(0, 2, 0, 0), 0);
        expect.yes("clear what is empty", desk.clear(1));
        expect.yes("place again", desk.place(1, 0, 2, 1));
        expect.due("the placement of what was cleared stays", desk.expand(1, 2, 0, 0), 2);
        expect.yes("clear leaves at and steps", desk.filled(1, 4, 4));
        expect.yes("clear leaves at and steps", desk.filled(1, 5, 4));
        for (int i = 0; i < 6; i++) {
            desk.box(3, 0, 0, 1, 1);
        }
        desk.clear(3);
        expect.yes("box behind clear", desk.box(3, 0, 0, 1, 1));
    }

    private static void atMost200() {
        MaskDesk desk = new MaskDesk();
        for (int i = 0; i < 5; i++) {
            desk.box(0, 0, 0, 1, 1);
        }
        desk.place(1, 0, 4, 2);
        desk.place(2, 1, 4, 1);
        expect.due("160", desk.expand(0, 2, 0, 0), 160);
        desk.place(2, 1, 1, 1);
        expect.due("200", desk.expand(0, 2, 0, 0), 200);
        desk.box(2, 0, 0, 1, 1);
        expect.none("201", desk.expand(1, 2, 0, 0));
        expect.due("201 changes nothing", desk.measure(1, 0), 0);
        expect.due("another part", desk.expand(1, 1, 0, 0), 40);
    }

    /** Some 10^9 copies: of nothing, which is fine, and of one cell, which is too many. */
    private static void manyCopiesOfNothing() {
        MaskDesk desk = new MaskDesk();
        for (int c = 1; c < 6; c++) {
            for (int k = 0; k < 4; k++) {
                desk.place(c, c - 1, 4, 4);
            }
        }
        expect.due("copies of nothing", desk.expand(0, 5, 0, 0), 0);
        desk.box(5, 0, 0, 2, 2);
        expect.due("one box beside them", desk.expand(0, 5, 0, 0), 1);
        desk.box(0, 0, 0, 1, 1);
        expect.none("copies of a box", desk.expand(1, 5, 0, 0));
        expect.due("copies of a box", desk.expand(1, 1, 0, 0), 64);
        expect.none("copies of a box", desk.expand(1, 2, 0, 0));
    }

    private static void expandsRefused() {
        MaskDesk desk = new MaskDesk();
        desk.box(0, 0, 0, 2, 2);
        desk.box(0, 14, 0, 2, 2);
        expect.none("expand s 6", desk.expand(6, 0, 0, 0));
        expect.none("expand s -1", desk.expand(-1, 0, 0, 0));
        expect.none("expand c 6", desk.expand(0, 6, 0, 0));
        expect.none("expand c -1", desk.expand(0, -1, 0, 0));
        expect.none("expand off the right", desk.expand(0, 0, 1, 0));
        expect.none("expand off the left", desk.expand(0, 0, -1, 0));
        expect.none("expand off the top", desk.expand(0, 0, 0, 15));
        expect.none("expand off the bottom", desk.expand(0, 0, 0, -1));
        expect.due("expand refused changes nothing", desk.measure(0, 0), 0);
        expect.due("expand to the top", desk.expand(0, 0, 0, 14), 2);
        expect.none("expand x 33 of nothing", desk.expand(0, 1, 33, 0));
        expect.none("expand x -33 of nothing", desk.expand(0, 1, -33, 0));
        expect.none("expand y 33 of nothing", desk.expand(0, 1, 0, 33));
        expect.none("expand y -33 of nothing", desk.expand(0, 1, 0, -33));
        expect.due("expand 32 of nothing", desk.expand(0, 1, 32, -32), 0);
        desk.at(-16, -16, 0);
        desk.box(1, -16, -16, 1, 1);
        desk.place(2, 1, 1, 1);
        expect.due("expand by 32", desk.expand(1, 2, 32, 32), 1);
        expect.yes("expand by 32", desk.filled(1, 0, 0));
    }
}
