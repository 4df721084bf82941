import java.lang.reflect.Field;
import java.lang.reflect.Method;

/** Promises 18 to 21: write, put, byteAt, read. */
public final class FileTest {
    private static final Expect expect = new Expect("FileTest");

    public static void main(String[] args) {
        nothingWritten();
        groupsInOrder();
        linesAndSteps();
        writtenInPlace();
        bytesPut();
        filesRead();
        overlaps();
        stepsRead();
        noFiles();
        offThePlate();
        bytesMissing();
        readReplaces();
        readRefused();
        longFiles();
        tooLongToWrite();
        expect.finish();
    }

    private static void fill(MaskDesk desk, int... bytes) {
        for (int b : bytes) {
            expect.yes("put(" + b + ")", desk.put(b));
        }
    }

    private static void nothingWritten() {
        MaskDesk desk = new MaskDesk();
        fill(desk, 7, 8, 9);
        expect.due("write without pieces", desk.write(), 1);
        expect.bytes("write without pieces", desk, 0);
        expect.due("read it back", desk.read(0), 0);
    }

    private static void groupsInOrder() {
        MaskDesk desk = new MaskDesk();
        desk.rect(0, 0, 0, 2, 1);
        desk.rect(0, 4, 0, 1, 3);
        desk.rect(0, 8, 0, 1, 2);
        desk.rect(0, 12, 0, 2, 2);
        expect.due("split", desk.split(0), 4);
        expect.due("write", desk.write(), 25);
        expect.bytes("by w, then by h", desk,
            1, 2, 1, 8, 0, 1,
            1, 3, 1, 4, 0, 1,
            2, 1, 1, 0, 0, 1,
            2, 2, 1, 12, 0, 1,
            0);
    }

    private static void linesAndSteps() {
        MaskDesk desk = new MaskDesk();
        int[][] cells = {{9, 0}, {11, 0}, {13, 0}, {2, 2}, {8, 3}, {2, 4}, {4, 4}};
        for (int[] cell : cells) {
            desk.rect(0, cell[0], cell[1], 1, 1);
        }
        expect.due("split", desk.split(0), 7);
        expect.due("write", desk.write(), 19);
        expect.bytes("a line as long as the steps go", desk,
            1, 1, 3,
            9, 0, 3, 2, 0,
            2, 2, 2, 6, 1,
            2, 4, 2, 2, 0,
            0);
        desk = new MaskDesk();
        int[][] back = {{9, 1}, {6, 3}, {3, 5}, {0, 7}, {15, 15}};
        for (int[] cell : back) {
            desk.rect(0, cell[0], cell[1], 1, 1);
        }
        expect.due("split", desk.split(0), 5);
        expect.due("write", desk.write(), 12);
        expect.bytes("steps below 0, and one alone at the end", desk,
            1, 1, 2,
            9, 1, 4, 253, 2,
            15, 15, 1,
            0);
        expect.due("read it back", desk.read(1), 5);
        desk.join(2, 0, 1, 3);
        expect.due("read it back", desk.measure(2, 0), 0);
    }

    private static void writtenInPlace() {
        MaskDesk desk = new MaskDesk();
        desk.rect(0, 3, 4, 5, 6);
        desk.split(0);
        desk.join(0, 0, 0, 3);
        for (int i = 0; i < 12; i++) {
            desk.put(200);
        }
        expect.due("write", desk.write(), 7);
        expect.bytes("in place of what there was", desk, 5, 6, 1, 3, 4, 1, 0);
        expect.due("write again", desk.write(), 7);
        expect.yes("put behind it", desk.put(1));
        expect.due("a byte behind the end", desk.read(0), -8);
        expect.due("write once more", desk.write(), 7);
        expect.due("the pieces are still there", desk.item(0, 0, 3), 6);
    }

    private static void bytesPut() {
        MaskDesk desk = new MaskDesk();
        expect.no("put -1", desk.put(-1));
        expect.no("put 256", desk.put(256));
        expect.no("put far off", desk.put(Integer.MIN_VALUE));
        expect.due("put refused changes nothing", desk.byteAt(-1), 0);
        for (int i = 0; i < 400; i++) {
            expect.yes("put", desk.put(i % 256));
        }
        expect.no("put 401 bytes", desk.put(0));
        expect.due("byteAt(-1)", desk.byteAt(-1), 400);
        expect.due("byteAt(255)", desk.byteAt(255), 255);
        expect.due("byteAt(399)", desk.byteAt(399), 143);
        expect.none("byteAt(400)", desk.byteAt(400));
        expect.none("byteAt(-2)", desk.byteAt(-2));
        expect.none("byteAt far off", desk.byteAt(Integer.MAX_VALUE));
        expect.due("a byte behind the end", desk.read(0), -2);
        expect.due("no bytes any more", desk.byteAt(-1), 0);
        expect.none("no bytes any more", desk.byteAt(0));
    }

    private static void reads(String what, int want, int... bytes) {
        MaskDesk desk = new MaskDesk();
        desk.rect(3, 5, 5, 1, 1);
        fill(desk, bytes);
        expect.due(what, desk.read(3), want);
        expect.due(what + ": no bytes any more", desk.byteAt(-1), 0);
        if (want < 0) {
            expect.due(what + ": the shape stays", desk.measure(3, 0), 1);
            expect.yes(what + ": the shape stays", desk.filled(3, 5, 5));
        }
    }

    private static void filesRead() {
        reads("the empty file", 0, 0);
        reads("one rectangle", 1, 16, 16, 1, 0, 0, 1, 0);
        reads("a size again, and a lesser one behind it", 3, 2, 2, 1, 0, 0, 1, 2, 2, 1, 3, 3, 1, 1, 9, 1, 2, 2, 1, 0);
        reads("two lines", 3, 1, 1, 2, 15, 15, 1, 0, 0, 2, 15, 15, 0);
        reads("255 on one spot", 255, 1, 1, 1, 3, 3, 255, 0, 0, 0);
        reads("a step back", 2, 3, 2, 1, 13, 14, 2, 243, 242, 0);
        reads("count 1 has no steps", 1, 1, 1, 1, 0, 0, 1, 0);
    }

    private static void overlaps() {
        MaskDesk desk = new MaskDesk();
        fill(desk, 3, 1, 1, 1, 1, 3, 1, 1, 2, 3, 1, 0, 0, 1, 0);
        expect.due("what overlaps counts", desk.read(0), 4);
        expect.shape("what overlaps", desk, 0,
            "...###",
            "#####.",
            "####..",
            "##....");
    }

    private static void stepsRead() {
        MaskDesk desk = new MaskDesk();
        fill(desk, 1, 2, 1, 6, 0, 4, 254, 1, 0);
        expect.due("steps", desk.read(0), 4);
        expect.shape("steps", desk, 0,
            "#......",
            "#.#....",
            "..#.#..",
            "....#.#",
            "......#");
    }

    private static void noFiles() {
        reads("w 17", -1, 17, 1);
        reads("w 255", -1, 255);
        reads("h 0", -2, 1, 0);
        reads("h 17", -2, 1, 17);
        reads("lines 0", -3, 1, 1, 0);
        reads("count 0", -6, 1, 1, 1, 0, 0, 0);
        reads("behind the end", -2, 0, 0);
        reads("behind the end", -8, 1, 1, 1, 0, 0, 1, 0, 7);
        reads("w 17 in the next group", -7, 1, 1, 1, 0, 0, 1, 17);
        reads("the first of two", -2, 1, 0, 1, 0, 0, 0);
    }

    private static void offThePlate() {
        reads("x off", -4, 2, 3, 1, 15);
        reads("x at the rim, y off", -5, 2, 3, 1, 14, 14);
        reads("x 255 is not -1", -4, 1, 1, 1, 255);
        reads("y 255 is not -1", -5, 1, 1, 1, 0, 255);
        reads("dx off", -7, 2, 3, 1, 10, 0, 3, 3);
        reads("dx off to the left", -7, 2, 3, 1, 3, 0, 3, 254);
        reads("dy off", -8, 2, 3, 1, 10, 10, 2, 4, 4);
        reads("dy off below", -8, 2, 3, 1, 10, 3, 3, 2, 254);
        reads("dx 127", -7, 1, 1, 1, 0, 0, 255, 127);
        reads("dx -128", -7, 1, 1, 1, 15, 15, 2, 128);
        reads("in the second line", -10, 1, 1, 2, 0, 0, 1, 1, 1, 2, 15);
        reads("on to the rim", 3, 2, 3, 1, 10, 9, 3, 2, 2, 0);
    }

    private static void bytesMissing() {
        int[] whole = {2, 3, 2, 1, 1, 3, 4, 0, 10, 12, 1, 0};
        reads("whole", 4, whole);
        for (int n = 0; n < whole.length; n++) {
            reads("the first " + n, -1 - n, java.util.Arrays.copyOf(whole, n));
        }
        reads("more lines than fit", -7, 1, 1, 255, 0, 0, 1);
    }

    private static void readReplaces() {
        MaskDesk desk = new MaskDesk();
        desk.rect(0, 0, 0, 16, 16);
        fill(desk, 2, 2, 1, 4, 4, 1, 0);
        expect.due("read", desk.read(0), 1);
        expect.due("the shape becomes the rectangles", desk.measure(0, 0), 4);
        expect.none("there are no pieces by that", desk.item(0, 0, 0));
        fill(desk, 0);
        expect.due("read nothing", desk.read(0), 0);
        expect.due("the shape becomes empty", desk.measure(0, 0), 0);
    }

    private static void readRefused() {
        MaskDesk desk = new MaskDesk();
        fill(desk, 1, 1, 1, 2, 2, 1, 0);
        expect.none("read s 6", desk.read(6));
        expect.none("read s -1", desk.read(-1));
        expect.bytes("the bytes stay", desk, 1, 1, 1, 2, 2, 1, 0);
        expect.due("read", desk.read(5), 1);
        expect.yes("read", desk.filled(5, 2, 2));
    }

    private static void longFiles() {
        MaskDesk desk = new MaskDesk();
        fill(desk, 1, 1, 79);
        for (int i = 0; i < 79; i++) {
            fill(desk, i % 16, i / 16, 255, 0, 0);
        }
        fill(desk, 0);
        expect.due("399 bytes", desk.byteAt(-1), 399);
        expect.due("399 bytes", desk.read(0), 79 * 255);
        expect.due("399 bytes", desk.measure(0, 0), 79);
        desk = new MaskDesk();
        Expect.drawCheckerboard(desk, 0);
        expect.due("a checkerboard", desk.split(0), 128);
        expect.due("a line for each row", desk.write(), 84);
        expect.due("a line for each row", desk.byteAt(2), 16);
        expect.due("read it back", desk.read(1), 128);
        desk.join(2, 0, 1, 3);
        expect.due("read it back", desk.measure(2, 0), 0);
    }

    /**
     * No calls lead to pieces that need more than 351 bytes. There are never fewer rectangles than
     * pieces, so there are no more pieces than level rows of filled cells; each of these takes one
     * cell more than its length of the 17 that a row of the plate then has, so pieces and their cells
     * are at most 16 * 17 = 272 together. A group takes at most 3.5 bytes, and 2.5 for each piece:
     * most with one piece each of 1 by 2, 2 by 1, 1 by 3 and 3 by 1, and all others 1 by 1.
     *
     * So these are slipped in by hand: groups of one piece (6 bytes each), of two (8), and of three
     * that are no line (11). Null, if the desk does not keep its pieces in this way: how it does is
     * free.
     */
    private static MaskDesk withGroups(int ones, int twos, int threes) {
        MaskDesk desk = new MaskDesk();
        try {
            Field field = MaskDesk.class.getDeclaredField("pieces");
            field.setAccessible(true);
            Object pieces = field.get(desk);
            if (pieces == null) {
                return unlikeThis("there are none at first");
            }
            Method append = pieces.getClass().getDeclaredMethod("append", int.class, int.class, int.class, int.class);
            append.setAccessible(true);
            for (int i = 0; i < ones + twos + threes; i++) {
                int members = i < ones ? 1 : i < ones + twos ? 2 : 3;
                for (int k = 0; k < members; k++) {
                    append.invoke(pieces, k * k, k, i % 16 + 1, i / 16 + 1);
                }
            }
        } catch (ReflectiveOperationException e) {
            return unlikeThis(e.toString());
        }
        return desk.item(0, ones + twos + threes - 1, 2) > 0 ? desk : unlikeThis("they are not told");
    }

    private static MaskDesk unlikeThis(String why) {
        System.out.println("FileTest: pieces for a file of 401 bytes cannot be slipped in: " + why);
        return null;
    }

    private static void tooLongToWrite() {
        MaskDesk desk = withGroups(62, 2, 1);
        if (desk == null) {
            return;
        }
        expect.due("400 bytes", desk.write(), 400);
        expect.due("400 bytes", desk.byteAt(-1), 400);
        expect.due("400 bytes", desk.byteAt(399), 0);
        for (int more = 0; more < 3; more++) {
            desk = withGroups(64 + more * 30, 2, 0);
            fill(desk, 7, 8, 9);
            expect.none("401 bytes and more", desk.write());
            expect.bytes("refused, the bytes stay", desk, 7, 8, 9);
            expect.yes("one more byte behind them", desk.put(10));
            expect.bytes("one more byte behind them", desk, 7, 8, 9, 10);
            expect.due("refused, the pieces stay", desk.item(0, 67, 2), more == 0 ? 2 : 4);
        }
    }
}
