import java.util.ArrayList;
import java.util.HashSet;
import java.util.List;
import java.util.Set;

/**
 * The document's words taken one by one, without regard to speed: what the desk's answers are
 * compared with. It shares no code with the desk and takes other ways where there are any.
 */
final class Model {
    static final int NONE = -1000;

    private final boolean[][][] shapes = new boolean[6][16][16];
    private List<int[]> points = new ArrayList<>();
    private final List<List<int[]>> boxes = new ArrayList<>();
    private final List<List<int[]>> placements = new ArrayList<>();
    private int[] at = {0, 0, 0};
    private int[] steps = {0, 0};
    private List<int[]> pieces = new ArrayList<>();
    private List<int[]> faults = new ArrayList<>();
    private List<Integer> bytes = new ArrayList<>();

    Model() {
        for (int c = 0; c < 6; c++) {
            boxes.add(new ArrayList<>());
            placements.add(new ArrayList<>());
        }
    }

    private static boolean in(long value, long low, long high) {
        return value >= low && value <= high;
    }

    private static boolean onPlate(long x, long y, long w, long h) {
        return w >= 1 && h >= 1 && x >= 0 && y >= 0 && x + w <= 16 && y + h <= 16;
    }

    private static void fill(boolean[][] cells, int x, int y, int w, int h) {
        for (int i = x; i < x + w; i++) {
            for (int j = y; j < y + h; j++) {
                cells[i][j] = true;
            }
        }
    }

    private static boolean has(boolean[][] cells, int x, int y) {
        return in(x, 0, 15) && in(y, 0, 15) && cells[x][y];
    }

    boolean rect(int s, int x, int y, int w, int h) {
        if (!in(s, 0, 5) || !onPlate(x, y, w, h)) {
            return false;
        }
        fill(shapes[s], x, y, w, h);
        return true;
    }

    boolean point(int x, int y) {
        if (!in(x, 0, 16) || !in(y, 0, 16) || points.size() == 24) {
            return false;
        }
        points.add(new int[] {x, y});
        return true;
    }

    boolean ring(int s) {
        List<int[]> drawn = points;
        points = new ArrayList<>();
        if (!in(s, 0, 5) || !isRing(drawn)) {
            return false;
        }
        for (int x = 0; x < 16; x++) {
            for (int y = 0; y < 16; y++) {
                if (isInside(drawn, x, y)) {
                    shapes[s][x][y] = true;
                }
            }
        }
        return true;
    }

    private static boolean isRing(List<int[]> drawn) {
        int n = drawn.size();
        if (!in(n, 4, 24) || n % 2 == 1) {
            return false;
        }
        boolean levelFirst = true;
        boolean uprightFirst = true;
        for (int i = 0; i < n; i++) {
            int[] p = drawn.get(i);
            int[] q = drawn.get((i + 1) % n);
            boolean level = p[0] != q[0] && p[1] == q[1];
            boolean upright = p[0] == q[0] && p[1] != q[1];
            levelFirst &= i % 2 == 0 ? level : upright;
            uprightFirst &= i % 2 == 0 ? upright : level;
        }
        return levelFirst || uprightFirst;
    }

    private static boolean isInside(List<int[]> drawn, int x, int y) {
        int beside = 0;
        for (int i = 0; i < drawn.size(); i++) {
            int[] p = drawn.get(i);
            int[] q = drawn.get((i + 1) % drawn.size());
            if (p[0] == q[0] && p[0] <= x && y >= Math.min(p[1], q[1]) && y < Math.max(p[1], q[1])) {
                beside++;
            }
        }
        return beside % 2 == 1;
    }

    boolean join(int t, int a, int b, int kind) {
        if (!in(t, 0, 5) || !in(a, 0, 5) || !in(b, 0, 5) || !in(kind, 0, 3)) {
            return false;
        }
        boolean[][] made = new boolean[16][16];
        for (int x = 0; x < 16; x++) {
            for (int y = 0; y < 16; y++) {
                boolean p = shapes[a][x][y];
                boolean q = shapes[b][x][y];
                made[x][y] = kind == 0 ? p || q : kind == 1 ? p && q : kind == 2 ? p && !q : p != q;
            }
        }
        shapes[t] = made;
        return true;
    }

    boolean size(int t, int a, int r) {
        if (!in(t, 0, 5) || !in(a, 0, 5) || !in(r, -8, 8)) {
            return false;
        }
        boolean[][] made = new boolean[16][16];
        int far = Math.abs(r);
        for (int x = 0; x < 16; x++) {
            for (int y = 0; y < 16; y++) {
                boolean some = false;
                boolean all = true;
                for (int i = x - far; i <= x + far; i++) {
                    for (int j = y - far; j <= y + far; j++) {
                        some |= has(shapes[a], i, j);
                        all &= has(shapes[a], i, j);
                    }
                }
                made[x][y] = r >= 0 ? some : all;
            }
        }
        shapes[t] = made;
        return true;
    }

    boolean box(int c, int x, int y, int w, int h) {
        if (!in(c, 0, 5) || boxes.get(c).size() == 6) {
            return false;
        }
        if (!in(x, -16, 16) || !in(y, -16, 16) || !in(w, 1, 16) || !in(h, 1, 16)) {
            return false;
        }
        boxes.get(c).add(new int[] {x, y, w, h});
        return true;
    }

    boolean at(int x, int y, int turn) {
        if (!in(x, -16, 16) || !in(y, -16, 16) || !in(turn, 0, 7)) {
            return false;
        }
        at = new int[] {x, y, turn};
        return true;
    }

    boolean steps(int dx, int dy) {
        if (!in(dx, -16, 16) || !in(dy, -16, 16)) {
            return false;
        }
        steps = new int[] {dx, dy};
        return true;
    }

    boolean place(int c, int d, int n, int m) {
        if (!in(c, 0, 5) || !in(d, 0, 5) || d >= c || placements.get(c).size() == 4) {
            return false;
        }
        if (!in(n, 1, 4) || !in(m, 1, 4)) {
            return false;
        }
        placements.get(c).add(new int[] {d, n, m, at[0], at[1], at[2], steps[0], steps[1]});
        return true;
    }

    boolean clear(int c) {
        if (!in(c, 0, 5)) {
            return false;
        }
        boxes.get(c).clear();
        placements.get(c).clear();
        return true;
    }

    int expand(int s, int c, int x, int y) {
        if (!in(s, 0, 5) || !in(c, 0, 5) || !in(x, -32, 32) || !in(y, -32, 32)) {
            return NONE;
        }
        List<int[]> all = allOf(c);
        if (all == null) {
            return NONE;
        }
        for (int[] r : all) {
            if (!onPlate(r[0] + x, r[1] + y, r[2], r[3])) {
                return NONE;
            }
        }
        for (int[] r : all) {
            fill(shapes[s], r[0] + x, r[1] + y, r[2], r[3]);
        }
        return all.size();
    }

    /** All rectangles that part c has, each turned and moved level by level; null above 200. */
    private List<int[]> allOf(int c) {
        List<int[]> all = new ArrayList<>(boxes.get(c));
        for (int[] p : placements.get(c)) {
            List<int[]> inner = allOf(p[0]);
            if (inner == null || all.size() + inner.size() * p[1] * p[2] > 200) {
                return null;
            }
            for (int i = 0; i < p[1]; i++) {
                for (int j = 0; j < p[2]; j++) {
                    for (int[] r : inner) {
                        all.add(moved(turned(r, p[5]), p[3] + i * p[6], p[4] + j * p[7]));
                    }
                }
            }
        }
        return all;
    }

    private static int[] moved(int[] r, int x, int y) {
        return new int[] {r[0] + x, r[1] + y, r[2], r[3]};
    }

    private static int[] turned(int[] r, int turn) {
        int[] a = turnedPoint(r[0], r[1], turn);
        int[] b = turnedPoint(r[0] + r[2], r[1] + r[3], turn);
        int x = Math.min(a[0], b[0]);
        int y = Math.min(a[1], b[1]);
        return new int[] {x, y, Math.max(a[0], b[0]) - x, Math.max(a[1], b[1]) - y};
    }

    private static int[] turnedPoint(int x, int y, int turn) {
        int[][] to = {{x, y}, {-y, x}, {-x, -y}, {y, -x}, {-x, y}, {-y, -x}, {x, -y}, {y, x}};
        return to[turn];
    }

    boolean filled(int s, int x, int y) {
        return in(s, 0, 5) && has(shapes[s], x, y);
    }

    int measure(int s, int what) {
        if (!in(s, 0, 5) || !in(what, 0, 4)) {
            return NONE;
        }
        boolean[][] cells = shapes[s];
        switch (what) {
            case 0:
                int sum = 0;
                for (int i = 0; i < 256; i++) {
                    sum += cells[i / 16][i % 16] ? 1 : 0;
                }
                return sum;
            case 1:
                return groups(cells, true, false);
            case 2:
                // The plate with a rim of cells that are off it: just one group has those.
                return groups(cells, false, true) - 1;
            case 3:
                return corners(cells).size();
            default:
                return chords(cells).size();
        }
    }

    private static int groups(boolean[][] cells, boolean value, boolean corners) {
        boolean[][] seen = new boolean[18][18];
        int count = 0;
        for (int i = 0; i < 18 * 18; i++) {
            int x = i % 18;
            int y = i / 18;
            if (!seen[x][y] && has(cells, x - 1, y - 1) == value) {
                count++;
                visit(cells, value, corners, seen, x, y);
            }
        }
        return count;
    }

    private static void visit(boolean[][] cells, boolean value, boolean corners, boolean[][] seen, int x, int y) {
        if (!in(x, 0, 17) || !in(y, 0, 17) || seen[x][y] || has(cells, x - 1, y - 1) != value) {
            return;
        }
        seen[x][y] = true;
        for (int dx = -1; dx <= 1; dx++) {
            for (int dy = -1; dy <= 1; dy++) {
                if (corners || dx == 0 || dy == 0) {
                    visit(cells, value, corners, seen, x + dx, y + dy);
                }
            }
        }
    }

    int check(int s, int kind, int w) {
        if (!in(s, 0, 5) || !in(kind, 0, 1) || !in(w, 1, 16)) {
            return NONE;
        }
        faults = new ArrayList<>();
        for (int upright = 0; upright <= 1; upright++) {
            for (int line = 0; line < 16; line++) {
                for (int from = 0; from < 16; from++) {
                    for (int length = 1; length < w && from + length <= 16; length++) {
                        if (isFault(shapes[s], kind, upright, line, from, length)) {
                            int x = upright == 1 ? line : from;
                            int y = upright == 1 ? from : line;
                            faults.add(new int[] {x, y, length, upright});
                        }
                    }
                }
            }
        }
        return faults.size();
    }

    private static boolean isFault(boolean[][] cells, int kind, int upright, int line, int from, int length) {
        boolean value = kind == 0;
        for (int i = from; i < from + length; i++) {
            if (along(cells, upright, line, i) != value) {
                return false;
            }
        }
        return along(cells, upright, line, from - 1) != value && along(cells, upright, line, from + length) != value;
    }

    private static boolean along(boolean[][] cells, int upright, int line, int i) {
        return upright == 1 ? has(cells, line, i) : has(cells, i, line);
    }

    private static List<int[]> corners(boolean[][] cells) {
        List<int[]> found = new ArrayList<>();
        for (int y = 0; y <= 16; y++) {
            for (int x = 0; x <= 16; x++) {
                int around = 0;
                for (int i = 0; i < 4; i++) {
                    around += has(cells, x - i % 2, y - i / 2) ? 1 : 0;
                }
                if (around == 3) {
                    found.add(new int[] {x, y});
                }
            }
        }
        return found;
    }

    /** Each x1, y1, x2, y2, in the chords' order. */
    private static List<int[]> chords(boolean[][] cells) {
        List<int[]> level = new ArrayList<>();
        List<int[]> upright = new ArrayList<>();
        List<int[]> corners = corners(cells);
        for (int[] p : corners) {
            for (int[] q : corners) {
                if (p[1] == q[1] && p[0] < q[0]) {
                    boolean all = true;
                    for (int x = p[0]; x < q[0]; x++) {
                        all &= has(cells, x, p[1]) && has(cells, x, p[1] - 1);
                    }
                    if (all) {
                        level.add(new int[] {p[0], p[1], q[0], q[1]});
                    }
                }
                if (p[0] == q[0] && p[1] < q[1]) {
                    boolean all = true;
                    for (int y = p[1]; y < q[1]; y++) {
                        all &= has(cells, p[0], y) && has(cells, p[0] - 1, y);
                    }
                    if (all) {
                        upright.add(new int[] {p[0], p[1], q[0], q[1]});
                    }
                }
            }
        }
        level.sort((a, b) -> a[1] != b[1] ? a[1] - b[1] : a[0] - b[0]);
        upright.sort((a, b) -> a[0] != b[0] ? a[0] - b[0] : a[1] - b[1]);
        level.addAll(upright);
        return level;
    }

    private static boolean touch(int[] a, int[] b) {
        boolean oneLevel = (a[1] == a[3]) != (b[1] == b[3]);
        return oneLevel && a[0] <= b[2] && b[0] <= a[2] && a[1] <= b[3] && b[1] <= a[3];
    }

    /** All sets are tried; bit i is chord i. */
    private static int choose(List<int[]> chords) {
        int n = chords.size();
        int[] touching = new int[n];
        for (int i = 0; i < n; i++) {
            for (int j = 0; j < n; j++) {
                touching[i] |= touch(chords.get(i), chords.get(j)) ? 1 << j : 0;
            }
        }
        int best = 0;
        for (int set = 1; set < 1 << n; set++) {
            boolean apart = true;
            for (int i = 0; i < n && apart; i++) {
                apart = (set >> i & 1) == 0 || (set & touching[i]) == 0;
            }
            if (apart && isBefore(set, best)) {
                best = set;
            }
        }
        return best;
    }

    private static boolean isBefore(int set, int other) {
        if (Integer.bitCount(set) != Integer.bitCount(other)) {
            return Integer.bitCount(set) > Integer.bitCount(other);
        }
        int first = Integer.lowestOneBit(set ^ other);
        return (set & first) != 0;
    }

    int split(int s) {
        if (!in(s, 0, 5)) {
            return NONE;
        }
        boolean[][] cells = shapes[s];
        List<int[]> chords = chords(cells);
        if (chords.size() > 14) {
            return NONE;
        }
        int chosen = choose(chords);
        Set<String> edges = new HashSet<>();
        Set<String> cutPoints = new HashSet<>();
        Set<String> ends = new HashSet<>();
        for (int i = 0; i < chords.size(); i++) {
            if ((chosen >> i & 1) == 1) {
                int[] c = chords.get(i);
                cut(c[0], c[1], c[2], c[3], edges, cutPoints);
                ends.add(c[0] + "," + c[1]);
                ends.add(c[2] + "," + c[3]);
            }
        }
        for (int[] p : corners(cells)) {
            if (!ends.contains(p[0] + "," + p[1])) {
                cutFrom(cells, p[0], p[1], edges, cutPoints);
            }
        }
        pieces = collect(cells, edges);
        return pieces.size();
    }

    private static void cut(int x1, int y1, int x2, int y2, Set<String> edges, Set<String> cutPoints) {
        for (int x = x1; x <= x2; x++) {
            for (int y = y1; y <= y2; y++) {
                cutPoints.add(x + "," + y);
                if (x < x2) {
                    edges.add("level " + x + "," + y);
                }
                if (y < y2) {
                    edges.add("upright " + x + "," + y);
                }
            }
        }
    }

    private static void cutFrom(boolean[][] cells, int x, int y, Set<String> edges, Set<String> cutPoints) {
        boolean right = has(cells, x, y) && has(cells, x, y - 1);
        int end = x;
        while (true) {
            int beside = right ? end : end - 1;
            boolean open = has(cells, beside, y) && has(cells, beside, y - 1);
            if (!open || end != x && cutPoints.contains(end + "," + y)) {
                break;
            }
            end += right ? 1 : -1;
        }
        cut(Math.min(x, end), y, Math.max(x, end), y, edges, cutPoints);
    }

    private static List<int[]> collect(boolean[][] cells, Set<String> edges) {
        List<int[]> found = new ArrayList<>();
        boolean[][] seen = new boolean[16][16];
        for (int y = 0; y < 16; y++) {
            for (int x = 0; x < 16; x++) {
                if (cells[x][y] && !seen[x][y]) {
                    int[] bounds = {x, y, x, y, 0};
                    gather(cells, edges, seen, x, y, bounds);
                    int w = bounds[2] - bounds[0] + 1;
                    int h = bounds[3] - bounds[1] + 1;
                    if (w * h != bounds[4]) {
                        throw new IllegalStateException("a piece is no rectangle");
                    }
                    found.add(new int[] {bounds[0], bounds[1], w, h});
                }
            }
        }
        found.sort((a, b) -> a[1] != b[1] ? a[1] - b[1] : a[0] - b[0]);
        return found;
    }

    private static void gather(boolean[][] cells, Set<String> edges, boolean[][] seen, int x, int y, int[] bounds) {
        if (!has(cells, x, y) || seen[x][y]) {
            return;
        }
        seen[x][y] = true;
        bounds[0] = Math.min(bounds[0], x);
        bounds[1] = Math.min(bounds[1], y);
        bounds[2] = Math.max(bounds[2], x);
        bounds[3] = Math.max(bounds[3], y);
        bounds[4]++;
        if (!edges.contains("upright " + x + "," + y)) {
            gather(cells, edges, seen, x - 1, y, bounds);
        }
        if (!edges.contains("upright " + (x + 1) + "," + y)) {
            gather(cells, edges, seen, x + 1, y, bounds);
        }
        if (!edges.contains("level " + x + "," + y)) {
            gather(cells, edges, seen, x, y - 1, bounds);
        }
        if (!edges.contains("level " + x + "," + (y + 1))) {
            gather(cells, edges, seen, x, y + 1, bounds);
        }
    }

    int item(int list, int i, int field) {
        if (!in(list, 0, 1) || !in(field, 0, 3)) {
            return NONE;
        }
        List<int[]> items = list == 0 ? pieces : faults;
        return in(i, 0, items.size() - 1) ? items.get(i)[field] : NONE;
    }

    int write() {
        List<Integer> made = new ArrayList<>();
        for (int w = 1; w <= 16; w++) {
            for (int h = 1; h <= 16; h++) {
                List<int[]> group = new ArrayList<>();
                for (int[] p : pieces) {
                    if (p[2] == w && p[3] == h) {
                        group.add(p);
                    }
                }
                if (!group.isEmpty()) {
                    writeGroup(w, h, group, made);
                }
            }
        }
        made.add(0);
        if (made.size() > 400) {
            return NONE;
        }
        bytes = made;
        return made.size();
    }

    private static void writeGroup(int w, int h, List<int[]> group, List<Integer> made) {
        List<int[]> lines = new ArrayList<>();
        while (!group.isEmpty()) {
            int[] first = group.remove(0);
            int[] line = {first[0], first[1], 1, 0, 0};
            if (!group.isEmpty()) {
                line[3] = group.get(0)[0] - first[0];
                line[4] = group.get(0)[1] - first[1];
            }
            while (!group.isEmpty() && group.get(0)[0] == first[0] + line[2] * line[3]
                && group.get(0)[1] == first[1] + line[2] * line[4]) {
                group.remove(0);
                line[2]++;
            }
            lines.add(line);
        }
        made.add(w);
        made.add(h);
        made.add(lines.size());
        for (int[] line : lines) {
            for (int i = 0; i < (line[2] > 1 ? 5 : 3); i++) {
                made.add(line[i] < 0 ? line[i] + 256 : line[i]);
            }
        }
    }

    boolean put(int b) {
        if (!in(b, 0, 255) || bytes.size() == 400) {
            return false;
        }
        bytes.add(b);
        return true;
    }

    int byteAt(int i) {
        if (i == -1) {
            return bytes.size();
        }
        return in(i, 0, bytes.size() - 1) ? bytes.get(i) : NONE;
    }

    private static final class NoFile extends Exception {
        private static final long serialVersionUID = 1L;
    }

    private int place;

    int read(int s) {
        if (!in(s, 0, 5)) {
            return NONE;
        }
        boolean[][] made = new boolean[16][16];
        int answer;
        place = 0;
        try {
            int count = 0;
            for (int w = next(0, 16); w != 0; w = next(0, 16)) {
                int h = next(1, 16);
                int lines = next(1, 255);
                for (int i = 0; i < lines; i++) {
                    count += readLine(w, h, made);
                }
            }
            if (place < bytes.size()) {
                throw new NoFile();
            }
            answer = count;
            shapes[s] = made;
        } catch (NoFile e) {
            answer = -1 - place;
        }
        bytes = new ArrayList<>();
        return answer;
    }

    private int next(int low, int high) throws NoFile {
        if (place == bytes.size() || !in(bytes.get(place), low, high)) {
            throw new NoFile();
        }
        return bytes.get(place++);
    }

    private int readLine(int w, int h, boolean[][] made) throws NoFile {
        int x = next(0, 16 - w);
        int y = next(0, 16 - h);
        int count = next(1, 255);
        int dx = count > 1 ? nextStep(x, count, w) : 0;
        int dy = count > 1 ? nextStep(y, count, h) : 0;
        for (int i = 0; i < count; i++) {
            fill(made, x + i * dx, y + i * dy, w, h);
        }
        return count;
    }

    private int nextStep(int first, int count, int length) throws NoFile {
        int b = next(0, 255);
        int step = b > 127 ? b - 256 : b;
        if (!in(first + (count - 1) * step, 0, 16 - length)) {
            place--;
            throw new NoFile();
        }
        return step;
    }
}
