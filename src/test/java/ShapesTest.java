/** Promises 1 to 6 and 13: a new object, rect, point, ring, join, size, filled. */
public final class ShapesTest {
    private static final Expect expect = new Expect("ShapesTest");

    public static void main(String[] args) {
        newObject();
        rectangles();
        rectanglesRefused();
        points();
        rings();
        ringsThatCross();
        noRings();
        ringsOfTwentyFour();
        joins();
        joinsOntoItself();
        joinsRefused();
        grown();
        shrunk();
        sizesRefused();
        expect.finish();
    }

    private static void newObject() {
        MaskDesk desk = new MaskDesk();
        for (int s = 0; s < 6; s++) {
            expect.due("new: measure(s, 0)", desk.measure(s, 0), 0);
        }
        expect.none("new: no piece", desk.item(0, 0, 0));
        expect.none("new: no fault", desk.item(1, 0, 0));
        expect.due("new: no bytes", desk.byteAt(-1), 0);
        expect.none("new: no byte", desk.byteAt(0));
        expect.no("new: no points", desk.ring(0));
        expect.due("new: no pieces to write", desk.write(), 1);
        for (int c = 0; c < 6; c++) {
            expect.due("new: parts have nothing", desk.expand(0, c, 0, 0), 0);
        }
        expect.due("NONE", MaskDesk.NONE, -1000);
    }

    private static void rectangles() {
        MaskDesk desk = new MaskDesk();
        expect.yes("rect", desk.rect(0, 1, 0, 3, 2));
        expect.yes("rect over it", desk.rect(0, 3, 1, 2, 2));
        expect.shape("rect", desk, 0,
            "...##",
            ".####",
            ".###");
        expect.yes("rect of the plate", desk.rect(5, 0, 0, 16, 16));
        expect.due("rect of the plate", desk.measure(5, 0), 256);
        expect.yes("rect in the last cell", desk.rect(4, 15, 15, 1, 1));
        expect.yes("filled in the last cell", desk.filled(4, 15, 15));
        expect.no("filled left of the plate", desk.filled(5, -1, 3));
        expect.no("filled right of the plate", desk.filled(5, 16, 3));
        expect.no("filled below the plate", desk.filled(5, 3, -1));
        expect.no("filled above the plate", desk.filled(5, 3, 16));
        expect.no("filled far off", desk.filled(5, Integer.MIN_VALUE, Integer.MAX_VALUE));
        expect.no("filled where a bit would wrap", desk.filled(5, 32, 0));
        expect.no("filled in no shape", desk.filled(6, 0, 0));
        expect.no("filled in no shape", desk.filled(-1, 0, 0));
    }

    private static void rectanglesRefused() {
        MaskDesk desk = new MaskDesk();
        expect.no("rect s -1", desk.rect(-1, 0, 0, 1, 1));
        expect.no("rect s 6", desk.rect(6, 0, 0, 1, 1));
        expect.no("rect w 0", desk.rect(0, 0, 0, 0, 1));
        expect.no("rect h 0", desk.rect(0, 0, 0, 1, 0));
        expect.no("rect w -1", desk.rect(0, 5, 5, -1, 1));
        expect.no("rect x -1", desk.rect(0, -1, 0, 2, 1));
        expect.no("rect y -1", desk.rect(0, 0, -1, 1, 2));
        expect.no("rect x 16", desk.rect(0, 16, 0, 1, 1));
        expect.no("rect y 16", desk.rect(0, 0, 16, 1, 1));
        expect.no("rect too wide", desk.rect(0, 15, 0, 2, 1));
        expect.no("rect too high", desk.rect(0, 0, 15, 1, 2));
        expect.no("rect that wraps", desk.rect(0, 1, 0, Integer.MAX_VALUE, 1));
        expect.no("rect that wraps", desk.rect(0, 0, 1, 1, Integer.MAX_VALUE));
        expect.no("rect that wraps", desk.rect(0, Integer.MIN_VALUE, 0, Integer.MAX_VALUE, 1));
        expect.due("rect refused changes nothing", desk.measure(0, 0), 0);
    }

    private static void draw(MaskDesk desk, int... xy) {
        for (int i = 0; i < xy.length; i += 2) {
            desk.point(xy[i], xy[i + 1]);
        }
    }

    private static void points() {
        MaskDesk desk = new MaskDesk();
        expect.no("point x -1", desk.point(-1, 0));
        expect.no("point x 17", desk.point(17, 0));
        expect.no("point y -1", desk.point(0, -1));
        expect.no("point y 17", desk.point(0, 17));
        expect.yes("point 0, 0", desk.point(0, 0));
        expect.yes("point 16, 0", desk.point(16, 0));
        expect.no("point refused changes nothing", desk.point(3, 99));
        expect.yes("point 16, 16", desk.point(16, 16));
        expect.yes("point 0, 16", desk.point(0, 16));
        expect.yes("ring round the plate", desk.ring(3));
        expect.due("ring round the plate", desk.measure(3, 0), 256);
    }

    private static void rings() {
        MaskDesk desk = new MaskDesk();
        desk.rect(0, 0, 3, 1, 1);
        draw(desk, 1, 0, 1, 2, 2, 2, 2, 3, 4, 3, 4, 0);
        expect.yes("ring with y first", desk.ring(0));
        expect.shape("ring beside what there was", desk, 0,
            "#",
            "..##",
            ".###",
            ".###");
        draw(desk, 1, 1, 3, 1, 3, 3, 1, 3);
        expect.yes("ring with x first", desk.ring(1));
        expect.due("ring with x first", desk.measure(1, 0), 4);
        expect.no("no points are drawn behind a ring", desk.ring(1));
    }

    private static void ringsThatCross() {
        MaskDesk desk = new MaskDesk();
        draw(desk, 0, 0, 4, 0, 4, 4, 0, 4, 0, 0, 4, 0, 4, 4, 0, 4);
        expect.yes("ring twice round", desk.ring(0));
        expect.due("twice round is even", desk.measure(0, 0), 0);
        draw(desk, 0, 0, 3, 0, 3, 4, 1, 4, 1, 2, 5, 2, 5, 5, 0, 5);
        expect.yes("ring that crosses itself", desk.ring(1));
        expect.shape("ring that crosses itself", desk, 1,
            "#####",
            "#..##",
            "#..##",
            "###",
            "###");
    }

    private static void noRings() {
        MaskDesk desk = new MaskDesk();
        draw(desk, 0, 0, 4, 0);
        expect.no("ring of 2", desk.ring(0));
        draw(desk, 0, 0, 4, 0, 4, 4);
        expect.no("ring of 3", desk.ring(0));
        draw(desk, 0, 0, 4, 0, 4, 4, 0, 4, 0, 2);
        expect.no("ring of 5", desk.ring(0));
        draw(desk, 0, 0, 4, 4, 0, 4, 4, 0);
        expect.no("ring with a slanted edge", desk.ring(0));
        draw(desk, 0, 0, 2, 0, 4, 0, 4, 4, 0, 4, 0, 2);
        expect.no("ring not by turns", desk.ring(0));
        draw(desk, 0, 0, 0, 0, 4, 0, 4, 4, 0, 4, 0, 3);
        expect.no("ring with a point twice on end", desk.ring(0));
        draw(desk, 0, 0, 4, 0, 4, 4, 1, 4);
        expect.no("ring that does not close", desk.ring(0));
        draw(desk, 0, 0, 4, 0, 4, 4, 0, 4);
        expect.no("ring in no shape", desk.ring(6));
        expect.no("no points are drawn behind no shape", desk.ring(0));
        draw(desk, 0, 0, 4, 0, 4, 4, 0, 4);
        expect.no("ring in no shape", desk.ring(-1));
        expect.due("no ring changes nothing", desk.measure(0, 0), 0);
        draw(desk, 9, 9);
        expect.no("ring of 1", desk.ring(0));
        draw(desk, 0, 0, 4, 0, 4, 4, 0, 4);
        expect.yes("points are gone behind no ring", desk.ring(0));
        expect.due("points are gone behind no ring", desk.measure(0, 0), 16);
    }

    private static void ringsOfTwentyFour() {
        MaskDesk desk = new MaskDesk();
        // A stair of 11 steps, and the corner below it.
        for (int i = 0; i < 12; i++) {
            expect.yes("stair", desk.point(i, i));
            expect.yes("stair", desk.point(i, i == 11 ? 0 : i + 1));
        }
        expect.no("point 25", desk.point(3, 3));
        expect.yes("ring of 24", desk.ring(0));
        expect.due("ring of 24", desk.measure(0, 0), 66);
        expect.yes("filled in the stair", desk.filled(0, 10, 0));
        expect.yes("filled in the stair", desk.filled(0, 10, 10));
        expect.no("filled above the stair", desk.filled(0, 9, 10));
    }

    private static MaskDesk twoShapes() {
        MaskDesk desk = new MaskDesk();
        Expect.draw(desk, 0, "##.", "##.");
        Expect.draw(desk, 1, ".##", "...");
        desk.rect(2, 9, 9, 2, 2);
        return desk;
    }

    private static void joins() {
        MaskDesk desk = twoShapes();
        expect.yes("join 0", desk.join(2, 0, 1, 0));
        expect.shape("join 0", desk, 2, "###", "##.");
        desk = twoShapes();
        expect.yes("join 1", desk.join(2, 0, 1, 1));
        expect.shape("join 1", desk, 2, ".#.", "...");
        desk = twoShapes();
        expect.yes("join 2", desk.join(2, 0, 1, 2));
        expect.shape("join 2", desk, 2, "#..", "##.");
        desk = twoShapes();
        expect.yes("join 3", desk.join(2, 0, 1, 3));
        expect.shape("join 3", desk, 2, "#.#", "##.");
        expect.due("join leaves a", desk.measure(0, 0), 4);
        expect.due("join leaves b", desk.measure(1, 0), 2);
    }

    private static void joinsOntoItself() {
        MaskDesk desk = twoShapes();
        expect.yes("join onto a", desk.join(0, 0, 1, 2));
        expect.due("join onto a", desk.measure(0, 0), 3);
        desk = twoShapes();
        expect.yes("join onto b", desk.join(1, 0, 1, 2));
        expect.due("join onto b", desk.measure(1, 0), 3);
        expect.yes("join all one", desk.join(0, 0, 0, 3));
        expect.due("join all one", desk.measure(0, 0), 0);
    }

    private static void joinsRefused() {
        MaskDesk desk = twoShapes();
        expect.no("join t 6", desk.join(6, 0, 1, 0));
        expect.no("join t -1", desk.join(-1, 0, 1, 0));
        expect.no("join a 6", desk.join(2, 6, 1, 0));
        expect.no("join a -1", desk.join(2, -1, 1, 0));
        expect.no("join b 6", desk.join(2, 0, 6, 0));
        expect.no("join b -1", desk.join(2, 0, -1, 0));
        expect.no("join kind 4", desk.join(2, 0, 1, 4));
        expect.no("join kind -1", desk.join(2, 0, 1, -1));
        expect.due("join refused changes nothing", desk.measure(2, 0), 4);
        expect.yes("join refused changes nothing", desk.filled(2, 9, 9));
    }

    private static void grown() {
        MaskDesk desk = new MaskDesk();
        desk.rect(0, 0, 2, 1, 1);
        expect.yes("size 1", desk.size(1, 0, 1));
        expect.shape("size 1", desk, 1, "##", "##", "##", "..");
        expect.yes("size 0", desk.size(2, 1, 0));
        expect.due("size 0", desk.measure(2, 0), 6);
        desk = new MaskDesk();
        desk.rect(0, 7, 7, 1, 1);
        expect.yes("size 8", desk.size(1, 0, 8));
        expect.due("size 8 fills the plate", desk.measure(1, 0), 256);
        expect.yes("size 7", desk.size(1, 0, 7));
        expect.due("size 7", desk.measure(1, 0), 225);
        expect.yes("size onto itself", desk.size(0, 0, 2));
        expect.due("size onto itself", desk.measure(0, 0), 25);
        expect.yes("size of an empty one", desk.size(0, 5, 8));
        expect.due("size of an empty one", desk.measure(0, 0), 0);
    }

    private static void shrunk() {
        MaskDesk desk = new MaskDesk();
        desk.rect(0, 0, 0, 16, 16);
        expect.yes("size -1", desk.size(1, 0, -1));
        expect.due("the rim goes", desk.measure(1, 0), 196);
        expect.no("the rim goes", desk.filled(1, 0, 5));
        expect.no("the rim goes", desk.filled(1, 5, 15));
        expect.yes("the rim goes", desk.filled(1, 14, 14));
        expect.yes("size -8", desk.size(2, 0, -8));
        expect.due("size -8", desk.measure(2, 0), 0);
        expect.yes("size -7", desk.size(0, 0, -7));
        expect.due("size -7", desk.measure(0, 0), 4);
        expect.yes("size -7", desk.filled(0, 8, 7));
        desk = new MaskDesk();
        Expect.draw(desk, 0,
            "......",
            ".#####",
            ".####.",
            ".#####",
            ".#####");
        expect.yes("size -1 with a notch", desk.size(1, 0, -1));
        expect.shape("size -1 with a notch", desk, 1,
            "......",
            "......",
            "..##..",
            "..##..",
            "......");
    }

    private static void sizesRefused() {
        MaskDesk desk = new MaskDesk();
        desk.rect(0, 4, 4, 1, 1);
        expect.no("size r 9", desk.size(1, 0, 9));
        expect.no("size r -9", desk.size(1, 0, -9));
        expect.no("size r least", desk.size(1, 0, Integer.MIN_VALUE));
        expect.no("size t 6", desk.size(6, 0, 1));
        expect.no("size t -1", desk.size(-1, 0, 1));
        expect.no("size a 6", desk.size(1, 6, 1));
        expect.no("size a -1", desk.size(1, -1, 1));
        expect.due("size refused changes nothing", desk.measure(1, 0), 0);
    }
}
