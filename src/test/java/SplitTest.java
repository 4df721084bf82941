/** Promises 16 and 17: split, and the pieces that item tells. */
public final class SplitTest {
    private static final Expect expect = new Expect("SplitTest");

    public static void main(String[] args) {
        plain();
        levelGoesFirst();
        uprightWhereMore();
        firstInTheOrder();
        cutsStopAtCuts();
        cutsBothWays();
        pointsThatMeet();
        fourteenChords();
        piecesStay();
        refused();
        fewest();
        expect.finish();
    }

    private static void plain() {
        MaskDesk desk = new MaskDesk();
        expect.due("split nothing", desk.split(0), 0);
        expect.none("split nothing", desk.item(0, 0, 0));
        desk.rect(0, 0, 0, 16, 16);
        expect.due("split the plate", desk.split(0), 1);
        expect.items("split the plate", desk, 0, new int[] {0, 0, 16, 16});
        desk = new MaskDesk();
        Expect.draw(desk, 0,
            "##...",
            "##.##",
            "##.##",
            "...##");
        expect.due("by y, then by x", desk.split(0), 2);
        expect.items("by y, then by x", desk, 0, new int[] {3, 0, 2, 3}, new int[] {0, 1, 2, 3});
    }

    private static void levelGoesFirst() {
        MaskDesk desk = new MaskDesk();
        Expect.draw(desk, 0,
            ".##.",
            "####",
            "####",
            ".##.");
        expect.due("a cross", desk.split(0), 3);
        expect.items("two level chords before two upright ones", desk, 0,
            new int[] {1, 0, 2, 1},
            new int[] {0, 1, 4, 2},
            new int[] {1, 3, 2, 1});
    }

    private static void uprightWhereMore() {
        MaskDesk desk = new MaskDesk();
        // The level chord from 1, 2 to 3, 2 touches an upright one at each end.
        Expect.draw(desk, 0,
            ".##.",
            "####",
            "#..#");
        expect.due("one level chord, two upright ones", desk.measure(0, 4), 3);
        expect.due("two chords before one", desk.split(0), 3);
        expect.items("two chords before one", desk, 0,
            new int[] {0, 0, 1, 2},
            new int[] {3, 0, 1, 2},
            new int[] {1, 1, 2, 2});
        MaskDesk other = new MaskDesk();
        Expect.draw(other, 0,
            "##..##",
            "######",
            "##..##");
        expect.due("two upright chords", other.measure(0, 4), 2);
        expect.due("two upright chords", other.split(0), 3);
        expect.items("two upright chords", other, 0,
            new int[] {0, 0, 2, 3},
            new int[] {4, 0, 2, 3},
            new int[] {2, 1, 2, 1});
    }

    private static void firstInTheOrder() {
        MaskDesk desk = new MaskDesk();
        Expect.draw(desk, 0,
            "..##.",
            "#####",
            "###..",
            "###..");
        // Corners 2, 3 and 4, 3 and 3, 2: the level chord touches no upright one.
        expect.due("chords", desk.measure(0, 4), 1);
        expect.due("split", desk.split(0), 3);
        expect.items("split", desk, 0,
            new int[] {0, 0, 3, 2},
            new int[] {0, 2, 5, 1},
            new int[] {2, 3, 2, 1});
        MaskDesk both = new MaskDesk();
        Expect.draw(both, 0,
            "..##.",
            "#####",
            "##...");
        // The level chord from 2, 2 to 4, 2 and the upright one from 2, 1 to 2, 2 touch at an end.
        expect.due("chords", both.measure(0, 4), 2);
        expect.due("of two the level one", both.split(0), 3);
        expect.items("of two the level one", both, 0,
            new int[] {0, 0, 2, 1},
            new int[] {0, 1, 5, 1},
            new int[] {2, 2, 2, 1});
    }

    private static void cutsStopAtCuts() {
        MaskDesk desk = new MaskDesk();
        Expect.draw(desk, 0,
            "..####.",
            "..####.",
            "#######",
            "#######",
            "####...",
            "####...");
        // The level chord from 2, 4 to 6, 4; the cut from 4, 2 goes left to the rim.
        expect.due("chords", desk.measure(0, 4), 1);
        expect.due("split", desk.split(0), 3);
        expect.items("split", desk, 0,
            new int[] {0, 0, 4, 2},
            new int[] {0, 2, 7, 2},
            new int[] {2, 4, 4, 2});
        MaskDesk stop = new MaskDesk();
        Expect.draw(stop, 0,
            "##.####",
            "#######",
            "######.",
            "##.####");
        // The level chord from 3, 1 to 6, 1 touches the upright one at 3 and comes before it; the
        // upright one at 2 is chosen too, and the cut from 6, 2 goes left as far as that.
        expect.due("chords", stop.measure(0, 4), 3);
        expect.due("split", stop.split(0), 5);
        expect.items("split", stop, 0,
            new int[] {0, 0, 2, 4},
            new int[] {3, 0, 4, 1},
            new int[] {2, 1, 4, 1},
            new int[] {2, 2, 5, 1},
            new int[] {3, 3, 4, 1});
    }

    private static void cutsBothWays() {
        MaskDesk desk = new MaskDesk();
        Expect.draw(desk, 0,
            "#####",
            "##.##",
            "#####");
        expect.due("a hole", desk.split(0), 4);
        expect.items("cuts go left and right to the rim", desk, 0,
            new int[] {0, 0, 5, 1},
            new int[] {0, 1, 2, 1},
            new int[] {3, 1, 2, 1},
            new int[] {0, 2, 5, 1});
    }

    private static void pointsThatMeet() {
        MaskDesk desk = new MaskDesk();
        Expect.draw(desk, 0,
            ".##",
            "#..",
            "##.");
        expect.due("cells that meet at a point are not joined", desk.split(0), 3);
        expect.items("cells that meet at a point are not joined", desk, 0,
            new int[] {0, 0, 2, 1},
            new int[] {0, 1, 1, 1},
            new int[] {1, 2, 2, 1});
    }

    /** Crosses beside one another: four chords each. */
    private static MaskDesk crosses(int count) {
        MaskDesk desk = new MaskDesk();
        for (int i = 0; i < count; i++) {
            desk.rect(0, i % 4 * 4, i / 4 * 4 + 1, 3, 1);
            desk.rect(0, i % 4 * 4 + 1, i / 4 * 4, 1, 3);
        }
        return desk;
    }

    private static void fourteenChords() {
        MaskDesk desk = crosses(3);
        desk.rect(0, 0, 8, 3, 1);
        desk.rect(0, 1, 9, 1, 1);
        expect.due("13 chords", desk.measure(0, 4), 13);
        expect.due("13 chords", desk.split(0), 11);
        desk.rect(0, 4, 8, 3, 1);
        desk.rect(0, 5, 9, 1, 1);
        expect.due("14 chords", desk.measure(0, 4), 14);
        expect.due("14 chords", desk.split(0), 13);
        expect.due("14 chords", desk.item(0, 12, 0), 5);
        desk.rect(0, 8, 8, 3, 1);
        desk.rect(0, 9, 9, 1, 1);
        expect.due("15 chords", desk.measure(0, 4), 15);
        expect.none("15 chords", desk.split(0));
        expect.due("refused, the latest pieces stay", desk.item(0, 12, 0), 5);
        expect.none("refused, the latest pieces stay", desk.item(0, 13, 0));
    }

    private static void piecesStay() {
        MaskDesk desk = new MaskDesk();
        desk.rect(0, 2, 3, 4, 5);
        expect.due("split", desk.split(0), 1);
        desk.rect(0, 0, 0, 16, 16);
        desk.join(0, 0, 0, 3);
        desk.check(0, 0, 4);
        expect.items("whatever comes to the shape", desk, 0, new int[] {2, 3, 4, 5});
        expect.none("split refused", desk.split(6));
        expect.items("whatever is refused", desk, 0, new int[] {2, 3, 4, 5});
        expect.due("split again", desk.split(0), 0);
        expect.none("no pieces", desk.item(0, 0, 0));
    }

    private static void refused() {
        MaskDesk desk = new MaskDesk();
        desk.rect(0, 2, 3, 4, 5);
        expect.none("split s 6", desk.split(6));
        expect.none("split s -1", desk.split(-1));
        expect.none("split refused changes nothing", desk.item(0, 0, 0));
        desk.split(0);
        expect.none("item list 2", desk.item(2, 0, 0));
        expect.none("item list -1", desk.item(-1, 0, 0));
        expect.none("item i -1", desk.item(0, -1, 0));
        expect.none("item i 1", desk.item(0, 1, 0));
        expect.none("item field 4", desk.item(0, 0, 4));
        expect.none("item field -1", desk.item(0, 0, -1));
    }

    /** All shapes of 4 by 4 cells: no fewer rectangles make them up, and these do. */
    private static void fewest() {
        int[] rectangles = new int[100];
        int n = 0;
        for (int i = 0; i < 256; i++) {
            int x = i & 3;
            int y = i >> 2 & 3;
            int w = (i >> 4 & 3) + 1;
            int h = (i >> 6) + 1;
            if (x + w <= 4 && y + h <= 4) {
                rectangles[n++] = cells(x, y, w, h);
            }
        }
        int[] least = new int[1 << 16];
        for (int shape = 1; shape < 1 << 16; shape++) {
            least[shape] = 16;
            for (int rectangle : rectangles) {
                if ((rectangle & ~shape) == 0) {
                    least[shape] = Math.min(least[shape], 1 + least[shape & ~rectangle]);
                }
            }
            MaskDesk desk = new MaskDesk();
            for (int i = 0; i < 16; i++) {
                if ((shape >> i & 1) == 1) {
                    desk.rect(0, 6 + i % 4, 6 + i / 4, 1, 1);
                }
            }
            expect.due("shape " + shape + ": split", desk.split(0), least[shape]);
            int made = 0;
            for (int i = 0; i < least[shape]; i++) {
                int piece = cells(desk.item(0, i, 0) - 6, desk.item(0, i, 1) - 6, desk.item(0, i, 2), desk.item(0, i, 3));
                expect.due("shape " + shape + ": no overlap", made & piece, 0);
                made |= piece;
            }
            expect.due("shape " + shape + ": what the pieces make up", made, shape);
        }
    }

    private static int cells(int x, int y, int w, int h) {
        int bits = 0;
        for (int i = 0; i < w * h; i++) {
            bits |= 1 << x + i % w + 4 * (y + i / w);
        }
        return bits;
    }
}
