/** Promise 14: measure. */
public final class MeasureTest {
    private static final Expect expect = new Expect("MeasureTest");

    public static void main(String[] args) {
        empty();
        full();
        islands();
        holes();
        holesAtTheRim();
        corners();
        chords();
        nothingInTheWay();
        manyChords();
        checkerboard();
        refused();
        expect.finish();
    }

    private static void all(String what, MaskDesk desk, int s, int... want) {
        for (int i = 0; i < want.length; i++) {
            expect.due(what + ": measure(" + s + ", " + i + ")", desk.measure(s, i), want[i]);
        }
    }

    private static void empty() {
        all("empty", new MaskDesk(), 0, 0, 0, 0, 0, 0);
    }

    private static void full() {
        MaskDesk desk = new MaskDesk();
        desk.rect(5, 0, 0, 16, 16);
        all("full", desk, 5, 256, 1, 0, 0, 0);
    }

    private static void islands() {
        MaskDesk desk = new MaskDesk();
        Expect.draw(desk, 0,
            "##..#",
            "..#.#",
            "#.###",
            "#....");
        all("islands meet at corners and stay two", desk, 0, 10, 3, 0, 2, 0);
    }

    private static void holes() {
        MaskDesk desk = new MaskDesk();
        Expect.draw(desk, 0,
            "........",
            ".######.",
            ".#.##.#.",
            ".##.#.#.",
            ".######.",
            "........");
        all("holes that meet at corners are one", desk, 0, 20, 1, 2, 10, 2);
        Expect.draw(desk, 1,
            "......",
            "..###.",
            "..#.#.",
            ".#.##.",
            ".###..",
            "......");
        all("a corner joins it to what is off the plate", desk, 1, 11, 1, 0, 6, 2);
    }

    private static void holesAtTheRim() {
        MaskDesk desk = new MaskDesk();
        Expect.draw(desk, 0,
            "#.#",
            "###");
        all("a notch is no hole, and no chord goes along it", desk, 0, 5, 1, 0, 2, 0);
        desk.rect(1, 0, 0, 16, 16);
        desk.rect(2, 0, 5, 1, 1);
        desk.rect(2, 15, 7, 1, 1);
        desk.rect(2, 4, 0, 1, 1);
        desk.rect(2, 6, 15, 1, 1);
        desk.rect(2, 1, 6, 1, 1);
        desk.join(1, 1, 2, 2);
        expect.due("what meets the rim is no hole", desk.measure(1, 2), 0);
        desk.rect(3, 1, 1, 1, 1);
        desk.join(1, 1, 3, 2);
        expect.due("one cell off the rim is one", desk.measure(1, 2), 1);
    }

    private static void corners() {
        MaskDesk desk = new MaskDesk();
        Expect.draw(desk, 0,
            "#.",
            "##");
        all("an L at the rim", desk, 0, 3, 1, 0, 1, 0);
        Expect.draw(desk, 1,
            ".#",
            "#.");
        all("two cells at a point are no inward corner", desk, 1, 2, 2, 0, 0, 0);
    }

    private static void chords() {
        MaskDesk desk = new MaskDesk();
        Expect.draw(desk, 0,
            ".##.",
            "####",
            "####",
            ".##.");
        all("a cross has four", desk, 0, 12, 1, 0, 4, 4);
        Expect.draw(desk, 1,
            "..##",
            "####",
            "##..");
        all("two corners with one x", desk, 1, 8, 1, 0, 2, 1);
        Expect.draw(desk, 2,
            "...##",
            "..###",
            "#####",
            "####.");
        all("three corners with no line in common", desk, 2, 14, 1, 0, 3, 0);
    }

    private static void nothingInTheWay() {
        MaskDesk desk = new MaskDesk();
        Expect.draw(desk, 0,
            "#########",
            "#.##.##.#",
            "#########");
        // Level: between neighbours, above and below; upright: none, holes have no corner inside.
        all("three holes in a row", desk, 0, 24, 1, 3, 12, 4);
        Expect.draw(desk, 1,
            "#####",
            "#...#",
            "#####");
        expect.due("no chord along an edge", desk.measure(1, 4), 0);
    }

    private static void manyChords() {
        MaskDesk desk = new MaskDesk();
        desk.rect(0, 0, 0, 16, 16);
        desk.box(0, 1, 1, 1, 1);
        desk.steps(3, 3);
        desk.place(1, 0, 4, 4);
        desk.at(12, 0, 0);
        desk.place(1, 0, 1, 4);
        desk.expand(1, 1, 0, 0);
        desk.join(0, 0, 1, 2);
        // 5 by 4 holes: 4 gaps in each of 8 level lines, 3 in each of 10 upright ones.
        all("holes in rows", desk, 0, 236, 1, 20, 80, 62);
    }

    private static void checkerboard() {
        MaskDesk desk = new MaskDesk();
        Expect.drawCheckerboard(desk, 0);
        all("checkerboard", desk, 0, 128, 128, 0, 0, 0);
    }

    private static void refused() {
        MaskDesk desk = new MaskDesk();
        expect.none("measure s 6", desk.measure(6, 0));
        expect.none("measure s -1", desk.measure(-1, 0));
        expect.none("measure what 5", desk.measure(0, 5));
        expect.none("measure what -1", desk.measure(0, -1));
    }
}
