/** Counts answers that are not as due, and ends the test with exit code 1 if there was one. */
final class Expect {
    private final String test;
    private int asked;
    private int wrong;

    Expect(String test) {
        this.test = test;
    }

    void due(String call, long got, long want) {
        asked++;
        if (got != want) {
            wrong++;
            System.out.println(test + ": " + call + " answered " + got + ", due is " + want);
        }
    }

    void due(String call, boolean got, boolean want) {
        due(call, got ? 1 : 0, want ? 1 : 0);
    }

    void yes(String call, boolean got) {
        due(call, got, true);
    }

    void no(String call, boolean got) {
        due(call, got, false);
    }

    void none(String call, int got) {
        due(call, got, MaskDesk.NONE);
    }

    /** Fills shape s as drawn: the last text is the row y = 0, each '#' a filled cell. */
    static void draw(MaskDesk desk, int s, String... rows) {
        for (int i = 0; i < rows.length; i++) {
            int y = rows.length - 1 - i;
            for (int x = 0; x < rows[i].length(); x++) {
                if (rows[i].charAt(x) == '#') {
                    desk.rect(s, x, y, 1, 1);
                }
            }
        }
    }

    /** Fills every other cell of shape s, that at 0, 0 among them: 128 of them. */
    static void drawCheckerboard(MaskDesk desk, int s) {
        desk.box(0, 0, 0, 1, 1);
        desk.box(0, 1, 1, 1, 1);
        desk.steps(2, 2);
        desk.place(1, 0, 4, 4);
        for (int i = 0; i < 4; i++) {
            desk.expand(s, 1, i % 2 * 8, i / 2 * 8);
        }
    }

    /** Asks for all 256 cells, so a test that calls this often takes care of the 512 calls. */
    void shape(String what, MaskDesk desk, int s, String... rows) {
        for (int y = 0; y < 16; y++) {
            for (int x = 0; x < 16; x++) {
                int i = rows.length - 1 - y;
                boolean want = i >= 0 && x < rows[i].length() && rows[i].charAt(x) == '#';
                due(what + ": filled(" + s + ", " + x + ", " + y + ")", desk.filled(s, x, y), want);
            }
        }
    }

    void items(String what, MaskDesk desk, int list, int[]... want) {
        for (int i = 0; i < want.length; i++) {
            for (int field = 0; field < 4; field++) {
                String call = what + ": item(" + list + ", " + i + ", " + field + ")";
                due(call, desk.item(list, i, field), want[i][field]);
            }
        }
        none(what + ": item behind the last", desk.item(list, want.length, 0));
    }

    void bytes(String what, MaskDesk desk, int... want) {
        due(what + ": byteAt(-1)", desk.byteAt(-1), want.length);
        for (int i = 0; i < want.length; i++) {
            due(what + ": byteAt(" + i + ")", desk.byteAt(i), want[i]);
        }
    }

    void finish() {
        System.out.println(test + ": " + asked + " answers, " + wrong + " not as due");
        if (wrong != 0) {
            System.exit(1);
        }
    }
}
