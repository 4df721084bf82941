/**
 * A desk that prepares plates from rectilinear shapes. What each call promises stands in the
 * project's document; all rows that calls work on are made once, with the object.
 */
public final class MaskDesk {
    public static final int NONE = -1000;

    private static final int SIDE = 16;
    private static final int CELLS = SIDE * SIDE;
    private static final int FULL_ROW = 0xFFFF;
    private static final int SHAPES = 6;
    private static final int PARTS = 6;
    private static final int MOST_GROWTH = 8;
    private static final int MOST_PLACE = 16;
    private static final int MOST_MOVE = 32;
    private static final int MOST_COPIES = 4;
    private static final int MOST_LAID = 200;

    private static final int PIECE_LIST = 0;
    private static final int FAULT_LIST = 1;

    private final Cells[] shapes = new Cells[SHAPES];
    private final Cells scratch = new Cells();
    private final Outline outline = new Outline();
    private final Layout layout = new Layout();
    private final Survey survey = new Survey();
    private final Chords chords = new Chords();
    private final Cutter cutter = new Cutter();
    private final Items pieces = new Items();
    private final Items faults = new Items();
    private final Tape tape = new Tape();
    private final TapeWriter writer = new TapeWriter();
    private final TapeReader reader = new TapeReader();

    public MaskDesk() {
        for (int s = 0; s < SHAPES; s++) {
            shapes[s] = new Cells();
        }
    }

    public boolean rect(int s, int x, int y, int w, int h) {
        if (!isShape(s) || !liesOnPlate(x, y, w, h)) {
            return false;
        }
        shapes[s].addRectangle(x, y, w, h);
        return true;
    }

    public boolean point(int x, int y) {
        return outline.addPoint(x, y);
    }

    public boolean ring(int s) {
        boolean drawn = isShape(s) && outline.isRing();
        if (drawn) {
            outline.findInside(scratch);
            shapes[s].addAll(scratch);
        }
        outline.wipe();
        return drawn;
    }

    public boolean join(int t, int a, int b, int kind) {
        if (!isShape(t) || !isShape(a) || !isShape(b) || kind < 0 || kind > 3) {
            return false;
        }
        shapes[t].combine(shapes[a], shapes[b], kind);
        return true;
    }

    public boolean size(int t, int a, int r) {
        if (!isShape(t) || !isShape(a) || !isUpTo(r, MOST_GROWTH)) {
            return false;
        }
        shapes[t].become(shapes[a]);
        for (int n = 0; n < r; n++) {
            shapes[t].growByOne();
        }
        for (int n = 0; n < -r; n++) {
            shapes[t].shrinkByOne();
        }
        return true;
    }

    public boolean box(int c, int x, int y, int w, int h) {
        if (!isPart(c) || !isUpTo(x, MOST_PLACE) || !isUpTo(y, MOST_PLACE)) {
            return false;
        }
        if (w < 1 || w > SIDE || h < 1 || h > SIDE) {
            return false;
        }
        return layout.addBox(c, x, y, w, h);
    }

    public boolean at(int x, int y, int turn) {
        if (!isUpTo(x, MOST_PLACE) || !isUpTo(y, MOST_PLACE) || turn < 0 || turn > 7) {
            return false;
        }
        layout.setPlace(x, y, turn);
        return true;
    }

    public boolean steps(int dx, int dy) {
        if (!isUpTo(dx, MOST_PLACE) || !isUpTo(dy, MOST_PLACE)) {
            return false;
        }
        layout.setSteps(dx, dy);
        return true;
    }

    public boolean place(int c, int d, int n, int m) {
        if (!isPart(c) || !isPart(d) || d >= c) {
            return false;
        }
        if (n < 1 || n > MOST_COPIES || m < 1 || m > MOST_COPIES) {
            return false;
        }
        return layout.addPlacement(c, d, n, m);
    }

    public boolean clear(int c) {
        if (!isPart(c)) {
            return false;
        }
        layout.wipePart(c);
        return true;
    }

    public int expand(int s, int c, int x, int y) {
        if (!isShape(s) || !isPart(c) || !isUpTo(x, MOST_MOVE) || !isUpTo(y, MOST_MOVE)) {
            return NONE;
        }
        int total = layout.countAll(c);
        if (total > MOST_LAID || !layout.layAll(c, x, y, scratch)) {
            return NONE;
        }
        shapes[s].addAll(scratch);
        return total;
    }

    public boolean filled(int s, int x, int y) {
        return isShape(s) && shapes[s].holds(x, y);
    }

    public int measure(int s, int what) {
        if (!isShape(s)) {
            return NONE;
        }
        switch (what) {
            case 0:
                return shapes[s].count();
            case 1:
                return survey.countIslands(shapes[s]);
            case 2:
                return survey.countHoles(shapes[s]);
            case 3:
                chords.find(shapes[s]);
                return chords.countCorners();
            case 4:
                chords.find(shapes[s]);
                return chords.count();
            default:
                return NONE;
        }
    }

    public int check(int s, int kind, int w) {
        if (!isShape(s) || kind < 0 || kind > 1 || w < 1 || w > SIDE) {
            return NONE;
        }
        survey.findFaults(shapes[s], kind == 1, w, faults);
        return faults.count();
    }

    public int split(int s) {
        if (!isShape(s)) {
            return NONE;
        }
        chords.find(shapes[s]);
        if (!chords.areAllKept()) {
            return NONE;
        }
        chords.choose();
        cutter.cut(shapes[s], chords);
        cutter.collect(shapes[s], pieces);
        return pieces.count();
    }

    public int item(int list, int i, int field) {
        switch (list) {
            case PIECE_LIST:
                return pieces.value(i, field);
            case FAULT_LIST:
                return faults.value(i, field);
            default:
                return NONE;
        }
    }

    public int write() {
        if (!writer.draft(pieces)) {
            return NONE;
        }
        tape.become(writer.drafted());
        return tape.count();
    }

    public boolean put(int b) {
        return b >= 0 && b <= 255 && tape.append(b);
    }

    public int byteAt(int i) {
        if (i == -1) {
            return tape.count();
        }
        return tape.holds(i) ? tape.value(i) : NONE;
    }

    public int read(int s) {
        if (!isShape(s)) {
            return NONE;
        }
        int answer = reader.decode(tape, scratch);
        if (answer >= 0) {
            shapes[s].become(scratch);
        }
        tape.wipe();
        return answer;
    }

    private static boolean isShape(int s) {
        return s >= 0 && s < SHAPES;
    }

    private static boolean isPart(int c) {
        return c >= 0 && c < PARTS;
    }

    private static boolean isUpTo(int value, int most) {
        return value >= -most && value <= most;
    }

    private static boolean isBit(int bits, int i) {
        return (bits >> i & 1) != 0;
    }

    /** Subtracts where adding could wrap around: w and h come from the caller as they are. */
    private static boolean liesOnPlate(int x, int y, int w, int h) {
        return x >= 0 && x < SIDE && w >= 1 && w <= SIDE - x
            && y >= 0 && y < SIDE && h >= 1 && h <= SIDE - y;
    }

    /** Where a row of bits that are set ends that begins at start: start itself, if there is none. */
    private static int runEnd(int bits, int start) {
        int end = start;
        while (end < SIDE && isBit(bits, end)) {
            end++;
        }
        return end;
    }

    /** The bits from .. to - 1. */
    private static int span(int from, int to) {
        return (1 << to) - (1 << from);
    }

    /** A set of cells of the plate. Bit x of row y is the cell x, y; no bit stands above them. */
    private static final class Cells {
        private final int[] rows = new int[SIDE];

        int row(int y) {
            return y >= 0 && y < SIDE ? rows[y] : 0;
        }

        int column(int x) {
            int bits = 0;
            for (int y = 0; y < SIDE; y++) {
                bits |= (rows[y] >> x & 1) << y;
            }
            return bits;
        }

        boolean holds(int x, int y) {
            return x >= 0 && x < SIDE && isBit(row(y), x);
        }

        int count() {
            int sum = 0;
            for (int y = 0; y < SIDE; y++) {
                sum += Integer.bitCount(rows[y]);
            }
            return sum;
        }

        void setRow(int y, int bits) {
            if (y >= 0 && y < SIDE) {
                rows[y] = bits & FULL_ROW;
            }
        }

        void wipe() {
            for (int y = 0; y < SIDE; y++) {
                rows[y] = 0;
            }
        }

        void become(Cells other) {
            for (int y = 0; y < SIDE; y++) {
                rows[y] = other.rows[y];
            }
        }

        void becomeAllBut(Cells other) {
            for (int y = 0; y < SIDE; y++) {
                rows[y] = FULL_ROW & ~other.rows[y];
            }
        }

        void addAll(Cells other) {
            for (int y = 0; y < SIDE; y++) {
                rows[y] |= other.rows[y];
            }
        }

        void removeAll(Cells other) {
            for (int y = 0; y < SIDE; y++) {
                rows[y] &= ~other.rows[y];
            }
        }

        void addRectangle(int x, int y, int w, int h) {
            if (liesOnPlate(x, y, w, h)) {
                for (int j = y; j < y + h; j++) {
                    rows[j] |= span(x, x + w);
                }
            }
        }

        void removeRectangle(int x, int y, int w, int h) {
            if (liesOnPlate(x, y, w, h)) {
                for (int j = y; j < y + h; j++) {
                    rows[j] &= ~span(x, x + w);
                }
            }
        }

        void combine(Cells a, Cells b, int kind) {
            for (int y = 0; y < SIDE; y++) {
                rows[y] = combineRows(a.rows[y], b.rows[y], kind);
            }
        }

        private static int combineRows(int a, int b, int kind) {
            switch (kind) {
                case 0:
                    return a | b;
                case 1:
                    return a & b;
                case 2:
                    return a & ~b;
                default:
                    return a ^ b;
            }
        }

        void growByOne() {
            int below = 0;
            for (int y = 0; y < SIDE; y++) {
                int here = rows[y] | rows[y] << 1 | rows[y] >> 1;
                int next = row(y + 1);
                int above = next | next << 1 | next >> 1;
                rows[y] = (below | here | above) & FULL_ROW;
                below = here;
            }
        }

        /** Rows and bits off the plate are 0, so the plate's rim goes first, as it must. */
        void shrinkByOne() {
            int below = 0;
            for (int y = 0; y < SIDE; y++) {
                int here = rows[y] & rows[y] << 1 & rows[y] >> 1;
                int next = row(y + 1);
                int above = next & next << 1 & next >> 1;
                rows[y] = below & here & above;
                below = here;
            }
        }
    }

    /** The points that are drawn for a ring. */
    private static final class Outline {
        private static final int FEWEST = 4;
        private static final int MOST = 24;

        private final int[] xs = new int[MOST];
        private final int[] ys = new int[MOST];
        private int count;

        boolean addPoint(int x, int y) {
            if (count >= MOST || x < 0 || x > SIDE || y < 0 || y > SIDE) {
                return false;
            }
            xs[count] = x;
            ys[count] = y;
            count++;
            return true;
        }

        void wipe() {
            count = 0;
        }

        boolean isRing() {
            if (count < FEWEST || count % 2 != 0) {
                return false;
            }
            for (int i = 0; i < count; i++) {
                int next = after(i);
                if (isLevel(i) == isUpright(i) || isLevel(i) == isLevel(next)) {
                    return false;
                }
            }
            return true;
        }

        void findInside(Cells inside) {
            inside.wipe();
            for (int i = 0; i < count; i++) {
                int next = after(i);
                int top = Math.max(ys[i], ys[next]);
                for (int y = Math.min(ys[i], ys[next]); y < top; y++) {
                    // Each upright edge turns odd to even for all that is right of it.
                    inside.setRow(y, inside.row(y) ^ FULL_ROW << xs[i]);
                }
            }
        }

        private int after(int i) {
            return i + 1 < count ? i + 1 : 0;
        }

        private boolean isLevel(int i) {
            return xs[i] != xs[after(i)];
        }

        private boolean isUpright(int i) {
            return ys[i] != ys[after(i)];
        }
    }

    /** A part: its rectangles and its placements, each a row of fields. */
    private static final class Part {
        private static final int MOST_BOXES = 6;
        private static final int BOX_FIELDS = 4;
        private static final int MOST_PLACEMENTS = 4;

        static final int PLACEMENT_FIELDS = 8;
        static final int OF = 0;
        static final int TURN = 1;
        static final int X = 2;
        static final int Y = 3;
        static final int DX = 4;
        static final int DY = 5;
        static final int N = 6;
        static final int M = 7;

        private final int[] boxes = new int[MOST_BOXES * BOX_FIELDS];
        private final int[] placements = new int[MOST_PLACEMENTS * PLACEMENT_FIELDS];
        private int boxCount;
        private int placementCount;

        void wipe() {
            boxCount = 0;
            placementCount = 0;
        }

        int countBoxes() {
            return boxCount;
        }

        int countPlacements() {
            return placementCount;
        }

        boolean addBox(int x, int y, int w, int h) {
            if (boxCount >= MOST_BOXES) {
                return false;
            }
            int start = boxCount * BOX_FIELDS;
            boxes[start] = x;
            boxes[start + 1] = y;
            boxes[start + 2] = w;
            boxes[start + 3] = h;
            boxCount++;
            return true;
        }

        boolean addPlacement(int[] fields) {
            if (placementCount >= MOST_PLACEMENTS || fields.length < PLACEMENT_FIELDS) {
                return false;
            }
            int start = placementCount * PLACEMENT_FIELDS;
            for (int f = 0; f < PLACEMENT_FIELDS; f++) {
                placements[start + f] = fields[f];
            }
            placementCount++;
            return true;
        }

        int boxField(int i, int field) {
            return boxes[i * BOX_FIELDS + field];
        }

        int placementField(int k, int field) {
            return placements[k * PLACEMENT_FIELDS + field];
        }
    }

    /** All parts, and what placements that come will be like. */
    private static final class Layout {
        private final Part[] parts = new Part[PARTS];
        private final int[] totals = new int[PARTS];
        private final int[] coming = new int[Part.PLACEMENT_FIELDS];

        Layout() {
            for (int c = 0; c < PARTS; c++) {
                parts[c] = new Part();
            }
        }

        boolean addBox(int c, int x, int y, int w, int h) {
            return parts[c].addBox(x, y, w, h);
        }

        void setPlace(int x, int y, int turn) {
            coming[Part.X] = x;
            coming[Part.Y] = y;
            coming[Part.TURN] = turn;
        }

        void setSteps(int dx, int dy) {
            coming[Part.DX] = dx;
            coming[Part.DY] = dy;
        }

        boolean addPlacement(int c, int d, int n, int m) {
            coming[Part.OF] = d;
            coming[Part.N] = n;
            coming[Part.M] = m;
            return parts[c].addPlacement(coming);
        }

        void wipePart(int c) {
            parts[c].wipe();
        }

        /** How many rectangles part c has; one too many stands for any number above. */
        int countAll(int c) {
            for (int p = 0; p <= c; p++) {
                Part part = parts[p];
                int sum = part.countBoxes();
                for (int k = 0; k < part.countPlacements(); k++) {
                    int copies = part.placementField(k, Part.N) * part.placementField(k, Part.M);
                    sum += copies * totals[part.placementField(k, Part.OF)];
                }
                totals[p] = Math.min(sum, MOST_LAID + 1);
            }
            return totals[c];
        }

        /** Needs the totals that countAll found; false if a cell would lie off the plate. */
        boolean layAll(int c, int x, int y, Cells into) {
            into.wipe();
            return layPart(c, 0, x, y, into);
        }

        private boolean layPart(int c, int turn, int x, int y, Cells into) {
            Part part = parts[c];
            for (int i = 0; i < part.countBoxes(); i++) {
                if (!layBox(part, i, turn, x, y, into)) {
                    return false;
                }
            }
            for (int k = 0; k < part.countPlacements(); k++) {
                if (!layCopies(c, k, turn, x, y, into)) {
                    return false;
                }
            }
            return true;
        }

        private boolean layCopies(int c, int k, int turn, int x, int y, Cells into) {
            Part part = parts[c];
            int d = part.placementField(k, Part.OF);
            if (d >= c) {
                return false;
            }
            // Copies of nothing are not counted, and could be more than can be walked through.
            if (totals[d] == 0) {
                return true;
            }
            int both = turnAfter(part.placementField(k, Part.TURN), turn);
            for (int i = 0; i < part.placementField(k, Part.N); i++) {
                int px = part.placementField(k, Part.X) + i * part.placementField(k, Part.DX);
                for (int j = 0; j < part.placementField(k, Part.M); j++) {
                    int py = part.placementField(k, Part.Y) + j * part.placementField(k, Part.DY);
                    int toX = x + turnedX(turn, px, py);
                    int toY = y + turnedY(turn, px, py);
                    if (!layPart(d, both, toX, toY, into)) {
                        return false;
                    }
                }
            }
            return true;
        }

        private static boolean layBox(Part part, int i, int turn, int x, int y, Cells into) {
            int left = part.boxField(i, 0);
            int low = part.boxField(i, 1);
            int right = left + part.boxField(i, 2);
            int high = low + part.boxField(i, 3);
            int x1 = x + turnedX(turn, left, low);
            int y1 = y + turnedY(turn, left, low);
            int x2 = x + turnedX(turn, right, high);
            int y2 = y + turnedY(turn, right, high);
            int w = Math.abs(x2 - x1);
            int h = Math.abs(y2 - y1);
            if (!liesOnPlate(Math.min(x1, x2), Math.min(y1, y2), w, h)) {
                return false;
            }
            into.addRectangle(Math.min(x1, x2), Math.min(y1, y2), w, h);
            return true;
        }

        private static int turnedX(int turn, int x, int y) {
            switch (turn) {
                case 0:
                case 6:
                    return x;
                case 1:
                case 5:
                    return -y;
                case 2:
                case 4:
                    return -x;
                default:
                    return y;
            }
        }

        private static int turnedY(int turn, int x, int y) {
            switch (turn) {
                case 0:
                case 4:
                    return y;
                case 1:
                case 7:
                    return x;
                case 2:
                case 6:
                    return -y;
                default:
                    return -x;
            }
        }

        /**
         * The turn that does first, then second. Turns from 4 on mirror, then go round like the
         * one 4 below; going round before a mirror is going round the other way behind it.
         */
        private static int turnAfter(int first, int second) {
            int round = second < 4 ? second + first : second - first;
            int mirror = (first ^ second) & 4;
            return mirror | round & 3;
        }
    }

    /** Looks over a shape for islands, holes and faults. */
    private static final class Survey {
        private final Cells left = new Cells();
        private final Cells reached = new Cells();

        int countIslands(Cells shape) {
            left.become(shape);
            return countGroups(false);
        }

        int countHoles(Cells shape) {
            left.becomeAllBut(shape);
            // The rim's cells are joined to those off the plate, so what they reach is no hole.
            reached.wipe();
            reached.setRow(0, left.row(0));
            reached.setRow(SIDE - 1, left.row(SIDE - 1));
            for (int y = 1; y < SIDE - 1; y++) {
                reached.setRow(y, left.row(y) & (1 | 1 << SIDE - 1));
            }
            flood(true);
            left.removeAll(reached);
            return countGroups(true);
        }

        private int countGroups(boolean byCorners) {
            int groups = 0;
            for (int y = 0; y < SIDE; y++) {
                for (int n = 0; n < SIDE && left.row(y) != 0; n++) {
                    reached.wipe();
                    reached.setRow(y, left.row(y) & -left.row(y));
                    flood(byCorners);
                    left.removeAll(reached);
                    groups++;
                }
            }
            return groups;
        }

        private void flood(boolean byCorners) {
            boolean more = true;
            // A round that changes anything reaches at least one more cell.
            for (int n = 0; n < CELLS && more; n++) {
                more = false;
                for (int y = 0; y < SIDE; y++) {
                    more |= spreadInto(y, byCorners);
                }
                for (int y = SIDE - 1; y >= 0; y--) {
                    more |= spreadInto(y, byCorners);
                }
            }
        }

        private boolean spreadInto(int y, boolean byCorners) {
            int before = reached.row(y);
            int near = reached.row(y - 1) | reached.row(y + 1);
            int touched = byCorners ? near | near << 1 | near >> 1 : near;
            int now = (before | touched) & left.row(y);
            for (int n = 0; n < SIDE; n++) {
                int wider = (now | now << 1 | now >> 1) & left.row(y);
                if (wider == now) {
                    break;
                }
                now = wider;
            }
            reached.setRow(y, now);
            return now != before;
        }

        void findFaults(Cells shape, boolean gaps, int w, Items faults) {
            faults.wipe();
            for (int y = 0; y < SIDE; y++) {
                int bits = shape.row(y);
                for (int x = 0; x < SIDE; x++) {
                    int length = faultLength(bits, x, gaps, w);
                    if (length > 0) {
                        faults.append(x, y, length, 0);
                    }
                }
            }
            for (int x = 0; x < SIDE; x++) {
                int bits = shape.column(x);
                for (int y = 0; y < SIDE; y++) {
                    int length = faultLength(bits, y, gaps, w);
                    if (length > 0) {
                        faults.append(x, y, length, 1);
                    }
                }
            }
        }

        /** The length of the fault that begins at start in a line of cells, or 0. */
        private static int faultLength(int bits, int start, boolean gaps, int w) {
            int looked = gaps ? ~bits & FULL_ROW : bits;
            if (!isBit(looked, start) || start > 0 && isBit(looked, start - 1)) {
                return 0;
            }
            int end = runEnd(looked, start);
            // Beyond the rim all is empty: a gap there has no filled cell at that end.
            if (gaps && (start == 0 || end == SIDE)) {
                return 0;
            }
            return end - start < w ? end - start : 0;
        }
    }

    /** The inward corners of a shape, its chords in their order, and those that are chosen. */
    private static final class Chords {
        private static final int MOST_KEPT = 14;
        private static final int NOBODY = -1;

        private final int[] corners = new int[SIDE + 1];
        private final int[] lines = new int[MOST_KEPT];
        private final int[] starts = new int[MOST_KEPT];
        private final int[] ends = new int[MOST_KEPT];
        private final int[] touching = new int[MOST_KEPT];
        private final int[] partners = new int[MOST_KEPT];
        private int count;
        private int levels;
        private int chosen;
        private int tried;

        void find(Cells shape) {
            findCorners(shape);
            count = 0;
            chosen = 0;
            findLevel(shape);
            levels = count;
            findUpright(shape);
        }

        int count() {
            return count;
        }

        boolean areAllKept() {
            return count <= MOST_KEPT;
        }

        int countCorners() {
            int sum = 0;
            for (int y = 0; y <= SIDE; y++) {
                sum += Integer.bitCount(corners[y]);
            }
            return sum;
        }

        /** Bit x is the point x, y. */
        int cornerRow(int y) {
            return y >= 0 && y <= SIDE ? corners[y] : 0;
        }

        boolean isChosen(int i) {
            return isBit(chosen, i);
        }

        boolean isLevel(int i) {
            return i < levels;
        }

        int line(int i) {
            return lines[i];
        }

        int start(int i) {
            return starts[i];
        }

        int end(int i) {
            return ends[i];
        }

        private void findCorners(Cells shape) {
            for (int y = 0; y <= SIDE; y++) {
                int lowRight = shape.row(y - 1);
                int lowLeft = lowRight << 1;
                int highRight = shape.row(y);
                int highLeft = highRight << 1;
                corners[y] = lowLeft & lowRight & (highLeft ^ highRight)
                    | (lowLeft ^ lowRight) & highLeft & highRight;
            }
        }

        private void findLevel(Cells shape) {
            for (int y = 1; y < SIDE; y++) {
                int inner = shape.row(y - 1) & shape.row(y);
                for (int x = 1; x < SIDE; x++) {
                    int end = isCorner(x, y) ? runEnd(inner, x) : x;
                    if (end > x && isCorner(end, y)) {
                        keep(y, x, end);
                    }
                }
            }
        }

        private void findUpright(Cells shape) {
            for (int x = 1; x < SIDE; x++) {
                int inner = shape.column(x - 1) & shape.column(x);
                for (int y = 1; y < SIDE; y++) {
                    int end = isCorner(x, y) ? runEnd(inner, y) : y;
                    if (end > y && isCorner(x, end)) {
                        keep(x, y, end);
                    }
                }
            }
        }

        private boolean isCorner(int x, int y) {
            return isBit(corners[y], x);
        }

        private void keep(int line, int start, int end) {
            if (count < MOST_KEPT) {
                lines[count] = line;
                starts[count] = start;
                ends[count] = end;
            }
            count++;
        }

        /** Takes each chord in the order that a greatest set can have beside those taken before. */
        void choose() {
            chosen = 0;
            if (!areAllKept()) {
                return;
            }
            findTouching();
            int left = (1 << count) - 1;
            int need = greatestAmong(left);
            for (int i = 0; i < count; i++) {
                int rest = left & ~(1 << i) & ~touching[i];
                if (isBit(left, i) && greatestAmong(rest) + 1 == need) {
                    chosen |= 1 << i;
                    left = rest;
                    need--;
                } else {
                    left &= ~(1 << i);
                }
            }
        }

        private void findTouching() {
            for (int i = 0; i < count; i++) {
                touching[i] = 0;
            }
            for (int i = 0; i < levels; i++) {
                for (int j = levels; j < count; j++) {
                    if (touch(i, j)) {
                        touching[i] |= 1 << j;
                        touching[j] |= 1 << i;
                    }
                }
            }
        }

        private boolean touch(int level, int upright) {
            return lines[upright] >= starts[level] && lines[upright] <= ends[level]
                && lines[level] >= starts[upright] && lines[level] <= ends[upright];
        }

        /**
         * How many chords a greatest set among these has. Level ones touch upright ones alone, so
         * (by Koenig's theorem) each pair of a greatest matching costs just one chord.
         */
        private int greatestAmong(int among) {
            for (int j = 0; j < count; j++) {
                partners[j] = NOBODY;
            }
            int pairs = 0;
            for (int i = 0; i < levels; i++) {
                tried = 0;
                if (isBit(among, i) && findPartner(i, among, 0)) {
                    pairs++;
                }
            }
            return Integer.bitCount(among) - pairs;
        }

        /** Each depth tries another upright chord, so there are never more than are kept. */
        private boolean findPartner(int i, int among, int depth) {
            if (depth > MOST_KEPT) {
                return false;
            }
            for (int j = levels; j < count; j++) {
                if (!isBit(touching[i] & among & ~tried, j)) {
                    continue;
                }
                tried |= 1 << j;
                if (partners[j] == NOBODY || findPartner(partners[j], among, depth + 1)) {
                    partners[j] = i;
                    return true;
                }
            }
            return false;
        }
    }

    /** Cuts a shape along the chosen chords and from the corners that are left. */
    private static final class Cutter {
        // Bit x at y: the edge between the cells x, y - 1 and x, y; that between x - 1, y and x, y;
        // the point x, y.
        private final int[] levelCuts = new int[SIDE + 1];
        private final int[] uprightCuts = new int[SIDE + 1];
        private final int[] cutPoints = new int[SIDE + 1];
        private final int[] openCorners = new int[SIDE + 1];
        private final Cells left = new Cells();

        void cut(Cells shape, Chords chords) {
            for (int y = 0; y <= SIDE; y++) {
                levelCuts[y] = 0;
                uprightCuts[y] = 0;
                cutPoints[y] = 0;
                openCorners[y] = chords.cornerRow(y);
            }
            for (int i = 0; i < chords.count(); i++) {
                if (chords.isChosen(i)) {
                    cutChord(chords, i);
                }
            }
            for (int y = 1; y < SIDE; y++) {
                for (int x = 1; x < SIDE; x++) {
                    if (isBit(openCorners[y], x)) {
                        cutFrom(x, y, shape.row(y - 1) & shape.row(y));
                    }
                }
            }
        }

        private void cutChord(Chords chords, int i) {
            int line = chords.line(i);
            int start = chords.start(i);
            int end = chords.end(i);
            if (chords.isLevel(i)) {
                cutLevel(line, start, end);
                openCorners[line] &= ~(1 << start) & ~(1 << end);
            } else {
                cutUpright(line, start, end);
                openCorners[start] &= ~(1 << line);
                openCorners[end] &= ~(1 << line);
            }
        }

        private void cutLevel(int y, int start, int end) {
            levelCuts[y] |= span(start, end);
            cutPoints[y] |= span(start, end + 1);
        }

        private void cutUpright(int x, int start, int end) {
            for (int y = start; y < end; y++) {
                uprightCuts[y] |= 1 << x;
                cutPoints[y] |= 1 << x;
            }
            cutPoints[end] |= 1 << x;
        }

        /** Bit x of inner: both cells beside the way from x to x + 1 are filled. */
        private void cutFrom(int x, int y, int inner) {
            int end = x;
            if (isBit(inner, x)) {
                do {
                    end++;
                } while (end < SIDE && isBit(inner, end) && !isBit(cutPoints[y], end));
                cutLevel(y, x, end);
            } else {
                do {
                    end--;
                } while (end > 0 && isBit(inner, end - 1) && !isBit(cutPoints[y], end));
                cutLevel(y, end, x);
            }
        }

        /** Pieces are rectangles: the first cell that is met of one is its lower left one. */
        void collect(Cells shape, Items pieces) {
            pieces.wipe();
            left.become(shape);
            for (int y = 0; y < SIDE; y++) {
                for (int x = 0; x < SIDE; x++) {
                    if (left.holds(x, y)) {
                        int w = widthFrom(x, y);
                        int h = heightFrom(x, y);
                        left.removeRectangle(x, y, w, h);
                        pieces.append(x, y, w, h);
                    }
                }
            }
        }

        private int widthFrom(int x, int y) {
            int w = 1;
            while (x + w < SIDE && left.holds(x + w, y) && !isBit(uprightCuts[y], x + w)) {
                w++;
            }
            return w;
        }

        private int heightFrom(int x, int y) {
            int h = 1;
            while (y + h < SIDE && left.holds(x, y + h) && !isBit(levelCuts[y + h], x)) {
                h++;
            }
            return h;
        }
    }

    /** A list of pieces or of faults: four small numbers each, packed into one. */
    private static final class Items {
        private static final int FIELDS = 4;
        private static final int BITS = 5;
        private static final int MASK = 31;

        // A piece has a cell of its own, and a line of the plate has at most 8 faults.
        private final int[] packed = new int[CELLS];
        private int count;

        void wipe() {
            count = 0;
        }

        int count() {
            return count;
        }

        void append(int a, int b, int c, int d) {
            if (count < CELLS) {
                packed[count] = a | b << BITS | c << 2 * BITS | d << 3 * BITS;
                count++;
            }
        }

        int value(int i, int field) {
            if (i < 0 || i >= count || field < 0 || field >= FIELDS) {
                return NONE;
            }
            return packed[i] >> field * BITS & MASK;
        }
    }

    /** The bytes that there are. */
    private static final class Tape {
        private static final int MOST = 400;

        private final int[] bytes = new int[MOST];
        private int count;

        void wipe() {
            count = 0;
        }

        int count() {
            return count;
        }

        boolean holds(int i) {
            return i >= 0 && i < count;
        }

        int value(int i) {
            return holds(i) ? bytes[i] : 0;
        }

        boolean append(int b) {
            if (count >= MOST) {
                return false;
            }
            bytes[count] = b;
            count++;
            return true;
        }

        void become(Tape other) {
            count = other.count;
            for (int i = 0; i < count; i++) {
                bytes[i] = other.bytes[i];
            }
        }
    }

    /** Writes pieces on a tape of its own, so that the desk's stays if they are too many. */
    private static final class TapeWriter {
        private final Tape out = new Tape();
        private final int[] xs = new int[CELLS];
        private final int[] ys = new int[CELLS];
        private int members;
        private boolean fits;

        Tape drafted() {
            return out;
        }

        boolean draft(Items pieces) {
            out.wipe();
            fits = true;
            int kind = kindAfter(pieces, 0);
            for (int n = 0; n < CELLS && kind > 0; n++) {
                writeGroup(pieces, kind);
                kind = kindAfter(pieces, kind);
            }
            emit(0);
            return fits;
        }

        /** Orders by w, then by h. */
        private static int kindOf(Items pieces, int i) {
            return pieces.value(i, 2) * (SIDE + 1) + pieces.value(i, 3);
        }

        /** The next kind that there is, or 0. */
        private static int kindAfter(Items pieces, int kind) {
            int next = 0;
            for (int i = 0; i < pieces.count(); i++) {
                int other = kindOf(pieces, i);
                if (other > kind && (next == 0 || other < next)) {
                    next = other;
                }
            }
            return next;
        }

        private void writeGroup(Items pieces, int kind) {
            gather(pieces, kind);
            emit(kind / (SIDE + 1));
            emit(kind % (SIDE + 1));
            emit(countLines());
            int lineEnd = 0;
            for (int k = 0; k < members; k++) {
                if (k == lineEnd) {
                    lineEnd = lineEndFrom(k);
                    writeLine(k, lineEnd - k);
                }
            }
        }

        private void gather(Items pieces, int kind) {
            members = 0;
            for (int i = 0; i < pieces.count(); i++) {
                if (kindOf(pieces, i) == kind) {
                    xs[members] = pieces.value(i, 0);
                    ys[members] = pieces.value(i, 1);
                    members++;
                }
            }
        }

        private int countLines() {
            int lines = 0;
            int lineEnd = 0;
            for (int k = 0; k < members; k++) {
                if (k == lineEnd) {
                    lineEnd = lineEndFrom(k);
                    lines++;
                }
            }
            return lines;
        }

        private int lineEndFrom(int k) {
            int end = k + 1;
            while (end < members && isSameStep(k, end)) {
                end++;
            }
            return end;
        }

        private boolean isSameStep(int first, int next) {
            return xs[next] - xs[next - 1] == xs[first + 1] - xs[first]
                && ys[next] - ys[next - 1] == ys[first + 1] - ys[first];
        }

        private void writeLine(int k, int length) {
            emit(xs[k]);
            emit(ys[k]);
            emit(length);
            if (length > 1) {
                emit(xs[k + 1] - xs[k] & 255);
                emit(ys[k + 1] - ys[k] & 255);
            }
        }

        private void emit(int b) {
            fits &= out.append(b);
        }
    }

    /** Reads a tape byte by byte: each byte either goes on a file or is the first that does not. */
    private static final class TapeReader {
        private static final int WIDTH = 0;
        private static final int HEIGHT = 1;
        private static final int LINES = 2;
        private static final int LINE_X = 3;
        private static final int LINE_Y = 4;
        private static final int COUNT = 5;
        private static final int STEP_X = 6;
        private static final int STEP_Y = 7;
        private static final int OVER = 8;

        private int due;
        private int w;
        private int h;
        private int lines;
        private int x;
        private int y;
        private int copies;
        private int dx;
        private int dy;
        private int total;

        int decode(Tape tape, Cells into) {
            into.wipe();
            due = WIDTH;
            total = 0;
            for (int i = 0; i < tape.count(); i++) {
                if (!accept(tape.value(i), into)) {
                    return -1 - i;
                }
            }
            return due == OVER ? total : -1 - tape.count();
        }

        private boolean accept(int b, Cells into) {
            switch (due) {
                case WIDTH:
                    return acceptWidth(b);
                case HEIGHT:
                    h = b;
                    due = LINES;
                    return b >= 1 && b <= SIDE;
                case LINES:
                    lines = b;
                    due = LINE_X;
                    return b >= 1;
                case LINE_X:
                    x = b;
                    due = LINE_Y;
                    return b <= SIDE - w;
                case LINE_Y:
                    y = b;
                    due = COUNT;
                    return b <= SIDE - h;
                case COUNT:
                    return acceptCount(b, into);
                case STEP_X:
                    dx = signed(b);
                    due = STEP_Y;
                    return endsOnPlate(x, dx, w);
                case STEP_Y:
                    dy = signed(b);
                    return endsOnPlate(y, dy, h) && finishLine(into);
                default:
                    return false;
            }
        }

        private boolean acceptWidth(int b) {
            w = b;
            due = b == 0 ? OVER : HEIGHT;
            return b <= SIDE;
        }

        private boolean acceptCount(int b, Cells into) {
            copies = b;
            dx = 0;
            dy = 0;
            if (b == 1) {
                return finishLine(into);
            }
            due = STEP_X;
            return b > 1;
        }

        private static int signed(int b) {
            return b < 128 ? b : b - 256;
        }

        private boolean endsOnPlate(int first, int step, int length) {
            int last = first + (copies - 1) * step;
            return last >= 0 && last <= SIDE - length;
        }

        private boolean finishLine(Cells into) {
            total += copies;
            // Copies that do not move lie on one another; any others are no more than the plate
            // is long.
            int drawn = dx == 0 && dy == 0 ? 1 : copies;
            for (int i = 0; i < drawn; i++) {
                into.addRectangle(x + i * dx, y + i * dy, w, h);
            }
            lines--;
            due = lines > 0 ? LINE_X : WIDTH;
            return true;
        }
    }
}
