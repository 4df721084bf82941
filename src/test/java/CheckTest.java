/** Promises 15 and 17: check, and the faults that item tells. */
public final class CheckTest {
    private static final Expect expect = new Expect("CheckTest");

    public static void main(String[] args) {
        narrow();
        near();
        widths();
        atTheRim();
        most();
        faultsStay();
        refused();
        expect.finish();
    }

    private static void narrow() {
        MaskDesk desk = new MaskDesk();
        Expect.draw(desk, 0,
            "....",
            ".##.",
            ".###",
            "...#");
        expect.due("check", desk.check(0, 0, 3), 5);
        expect.items("level ones first, then upright ones", desk, 1,
            new int[] {3, 0, 1, 0},
            new int[] {1, 2, 2, 0},
            new int[] {1, 1, 2, 1},
            new int[] {2, 1, 2, 1},
            new int[] {3, 0, 2, 1});
    }

    private static void near() {
        MaskDesk desk = new MaskDesk();
        Expect.draw(desk, 0,
            "#..#.#",
            "......",
            "......",
            "#...##");
        expect.due("check", desk.check(0, 1, 3), 4);
        expect.items("too near", desk, 1,
            new int[] {1, 3, 2, 0},
            new int[] {4, 3, 1, 0},
            new int[] {0, 1, 2, 1},
            new int[] {5, 1, 2, 1});
    }

    private static void widths() {
        MaskDesk desk = new MaskDesk();
        desk.rect(0, 0, 0, 15, 1);
        desk.rect(0, 0, 0, 1, 16);
        expect.due("nothing is shorter than 1", desk.check(0, 0, 1), 0);
        expect.due("w 2", desk.check(0, 0, 2), 29);
        expect.due("w 15", desk.check(0, 0, 15), 29);
        expect.due("w 16: the row of 15, not that of 16", desk.check(0, 0, 16), 30);
        expect.due("the row of 15", desk.item(1, 0, 2), 15);
    }

    private static void atTheRim() {
        MaskDesk desk = new MaskDesk();
        desk.rect(0, 1, 1, 14, 14);
        expect.due("gaps at the rim are open", desk.check(0, 1, 16), 0);
        desk.rect(1, 0, 0, 1, 16);
        desk.rect(1, 15, 0, 1, 16);
        expect.due("gaps of 14", desk.check(1, 1, 14), 0);
        expect.due("gaps of 14", desk.check(1, 1, 15), 16);
        expect.due("last", desk.item(1, 15, 1), 15);
        expect.due("last", desk.item(1, 15, 2), 14);
    }

    private static void most() {
        MaskDesk desk = new MaskDesk();
        Expect.drawCheckerboard(desk, 0);
        expect.due("as many as there can be", desk.check(0, 0, 16), 256);
        expect.due("the last one", desk.item(1, 255, 0), 15);
        expect.due("the last one", desk.item(1, 255, 1), 15);
        expect.due("the last one", desk.item(1, 255, 3), 1);
        expect.none("behind the last one", desk.item(1, 256, 0));
        expect.due("gaps", desk.check(0, 1, 2), 224);
    }

    private static void faultsStay() {
        MaskDesk desk = new MaskDesk();
        desk.rect(0, 3, 4, 1, 1);
        expect.due("check", desk.check(0, 0, 2), 2);
        desk.rect(0, 0, 0, 16, 16);
        desk.split(0);
        expect.due("faults stay whatever comes to the shape", desk.item(1, 0, 0), 3);
        expect.none("check refused", desk.check(0, 0, 17));
        expect.due("faults stay when one is refused", desk.item(1, 1, 3), 1);
        expect.due("check finds none", desk.check(0, 0, 2), 0);
        expect.none("there are none then", desk.item(1, 0, 0));
    }

    private static void refused() {
        MaskDesk desk = new MaskDesk();
        desk.rect(0, 3, 4, 1, 1);
        expect.none("check s 6", desk.check(6, 0, 1));
        expect.none("check s -1", desk.check(-1, 0, 1));
        expect.none("check kind 2", desk.check(0, 2, 1));
        expect.none("check kind -1", desk.check(0, -1, 1));
        expect.none("check w 0", desk.check(0, 0, 0));
        expect.none("check w 17", desk.check(0, 0, 17));
        desk.check(0, 0, 2);
        expect.none("item list 2", desk.item(2, 0, 0));
        expect.none("item list -1", desk.item(-1, 0, 0));
        expect.none("item i -1", desk.item(1, -1, 0));
        expect.none("item i 2", desk.item(1, 2, 0));
        expect.none("item field 4", desk.item(1, 0, 4));
        expect.none("item field -1", desk.item(1, 0, -1));
        expect.none("item far off", desk.item(1, Integer.MAX_VALUE, Integer.MIN_VALUE));
    }
}
