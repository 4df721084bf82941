import java.util.ArrayList;
import java.util.Arrays;
import java.util.List;
import java.util.function.Consumer;

/**
 * "A call that is refused changes nothing": makes the call on desks on which there is something of
 * everything, and then asks them for all that there is. What they answer must be what a desk
 * answers on which the call was never made. An object has 512 calls, so each desk is asked for a
 * part of it.
 */
final class Refusals {
    /** A call of the face, its arguments in a row; NONE if it is refused. */
    interface Call {
        int on(MaskDesk desk, int[] a);
    }

    /** What is asked of a desk, in a row of answers. */
    private interface Question {
        void ask(MaskDesk desk, Answers answers);
    }

    /** A row of answers. */
    private static final class Answers {
        private final List<Integer> row = new ArrayList<>();

        void add(int answer) {
            row.add(answer);
        }

        void add(boolean answer) {
            row.add(told(answer));
        }

        /** The place of the first answer that differs, or -1. */
        int firstOtherThan(Answers other) {
            for (int i = 0; i < row.size(); i++) {
                if (!row.get(i).equals(other.row.get(i))) {
                    return i;
                }
            }
            return -1;
        }
    }

    private final Expect expect;
    private final Consumer<MaskDesk> before;
    private final List<Question> questions;
    private final List<Answers> untouched = new ArrayList<>();

    private Refusals(Expect expect, Consumer<MaskDesk> before, List<Question> questions) {
        this.expect = expect;
        this.before = before;
        this.questions = questions;
        for (Question question : questions) {
            untouched.add(answers(prepared(), question));
        }
    }

    static Refusals onBusyDesk(Expect expect) {
        return onBusyDesk(expect, desk -> { });
    }

    /** On a desk with something of everything, to which more has come. */
    static Refusals onBusyDesk(Expect expect, Consumer<MaskDesk> more) {
        return new Refusals(expect, desk -> {
            busy(desk);
            more.accept(desk);
        }, wholeDesk());
    }

    /** On a desk whose preparation takes some 400 calls, so that each question is a short one. */
    static Refusals afterManyCalls(Expect expect, Consumer<MaskDesk> before) {
        return new Refusals(expect, before, deskInSmallParts());
    }

    /** A boolean answer as that of a call which answers NONE if it is refused. */
    static int told(boolean answer) {
        return answer ? 1 : MaskDesk.NONE;
    }

    void taken(String name, Call call, int... a) {
        String what = name + Arrays.toString(a);
        expect.no(what + " is refused", call.on(prepared(), a) == MaskDesk.NONE);
    }

    void refused(String name, Call call, int... a) {
        String what = name + Arrays.toString(a);
        changesNothing(what, desk -> expect.none(what, call.on(desk, a)));
    }

    /** A call that only asks: it changes nothing, whatever it answers. */
    void asked(String name, Call call, int... a) {
        changesNothing(name + Arrays.toString(a), desk -> call.on(desk, a));
    }

    private void changesNothing(String what, Consumer<MaskDesk> call) {
        for (int i = 0; i < questions.size(); i++) {
            MaskDesk desk = prepared();
            call.accept(desk);
            Answers found = answers(desk, questions.get(i));
            expect.due(what + " changes nothing: question " + i + ", first answer that is another one",
                found.firstOtherThan(untouched.get(i)), -1);
        }
    }

    /** Each argument on each side of its bounds, while the others are good; then all far beyond. */
    void bounds(String name, Call call, int[] good, int[]... bounds) {
        for (int k = 0; k < good.length; k++) {
            int[] a = good.clone();
            for (int value : Edges.inside(bounds[k][0], bounds[k][1])) {
                a[k] = value;
                taken(name, call, a);
            }
            for (int value : Edges.outside(bounds[k][0], bounds[k][1])) {
                a[k] = value;
                refused(name, call, a);
            }
        }
        int[] far = good.clone();
        Arrays.fill(far, Integer.MIN_VALUE);
        refused(name, call, far);
        Arrays.fill(far, Integer.MAX_VALUE);
        refused(name, call, far);
    }

    private MaskDesk prepared() {
        MaskDesk desk = new MaskDesk();
        before.accept(desk);
        return desk;
    }

    private static Answers answers(MaskDesk desk, Question question) {
        Answers answers = new Answers();
        question.ask(desk, answers);
        return answers;
    }

    /** Six shapes, pieces of one, faults of another, bytes, three points, parts, a place and steps. */
    private static void busy(MaskDesk desk) {
        desk.rect(0, 1, 1, 6, 4);
        desk.rect(0, 3, 0, 2, 7);
        desk.rect(1, 9, 2, 1, 5);
        desk.rect(1, 11, 2, 3, 3);
        desk.join(2, 0, 1, 0);
        desk.size(3, 2, 1);
        desk.rect(4, 0, 0, 16, 16);
        desk.rect(5, 15, 15, 1, 1);
        desk.split(2);
        desk.check(1, 0, 4);
        desk.write();
        desk.split(3);
        desk.put(5);
        drawThreePoints(desk);
        desk.box(0, 0, 0, 2, 1);
        desk.box(0, 0, 1, 1, 2);
        desk.box(2, -1, -1, 1, 1);
        desk.box(4, 1, 3, 2, 2);
        desk.at(1, 2, 5);
        desk.steps(3, 1);
        desk.place(1, 0, 2, 1);
        desk.place(2, 1, 1, 2);
        desk.place(5, 0, 1, 1);
        desk.at(2, -3, 1);
        desk.steps(-2, 4);
    }

    static void drawThreePoints(MaskDesk desk) {
        desk.point(1, 1);
        desk.point(5, 1);
        desk.point(5, 4);
    }

    private static List<Question> wholeDesk() {
        List<Question> all = new ArrayList<>();
        for (int i = 0; i < 6; i++) {
            int k = i;
            all.add((desk, answers) -> askCells(desk, k, answers));
            all.add((desk, answers) -> askPart(desk, k, answers));
        }
        all.add((desk, answers) -> askLists(desk, 24, answers));
        all.add((desk, answers) -> askBytes(desk, 0, 120, answers));
        all.add(Refusals::askWhatIsWritten);
        all.add(Refusals::askRing);
        all.add(Refusals::askRoomForPoints);
        all.add(Refusals::askPlacement);
        all.add(Refusals::askRoomInParts);
        all.add(Refusals::askWhatIsRead);
        return all;
    }

    private static List<Question> deskInSmallParts() {
        List<Question> all = new ArrayList<>();
        for (int i = 0; i < 400; i += 80) {
            int from = i;
            all.add((desk, answers) -> askBytes(desk, from, from + 80, answers));
        }
        all.add((desk, answers) -> askLists(desk, 4, answers));
        all.add(Refusals::askMeasures);
        all.add(Refusals::askRoomForPoints);
        all.add(Refusals::askRoomInParts);
        all.add((desk, answers) -> {
            answers.add(desk.read(4));
            askMeasures(desk, answers);
        });
        return all;
    }

    private static void askCells(MaskDesk desk, int s, Answers answers) {
        for (int i = 0; i < 256; i++) {
            answers.add(desk.filled(s, i % 16, i / 16));
        }
    }

    private static void askMeasures(MaskDesk desk, Answers answers) {
        for (int i = 0; i < 30; i++) {
            answers.add(desk.measure(i / 5, i % 5));
        }
    }

    private static void askPart(MaskDesk desk, int c, Answers answers) {
        desk.join(5, 5, 5, 3);
        answers.add(desk.expand(5, c, 6, 6));
        askCells(desk, 5, answers);
    }

    private static void askLists(MaskDesk desk, int items, Answers answers) {
        for (int i = 0; i < items * 8; i++) {
            answers.add(desk.item(i % 2, i / 8, i / 2 % 4));
        }
    }

    private static void askBytes(MaskDesk desk, int from, int to, Answers answers) {
        for (int i = from - 1; i < to; i++) {
            answers.add(i < 0 ? desk.byteAt(-1) : desk.byteAt(i));
        }
    }

    private static void askWhatIsWritten(MaskDesk desk, Answers answers) {
        answers.add(desk.write());
        askBytes(desk, 0, 120, answers);
    }

    private static void askWhatIsRead(MaskDesk desk, Answers answers) {
        answers.add(desk.read(1));
        answers.add(desk.byteAt(-1));
        askCells(desk, 1, answers);
    }

    private static void askRing(MaskDesk desk, Answers answers) {
        answers.add(desk.point(1, 4));
        answers.add(desk.ring(5));
        askCells(desk, 5, answers);
    }

    private static void askRoomForPoints(MaskDesk desk, Answers answers) {
        for (int i = 0; i < 25; i++) {
            answers.add(desk.point(i % 7, i % 5));
        }
        answers.add(desk.ring(0));
    }

    private static void askPlacement(MaskDesk desk, Answers answers) {
        answers.add(desk.place(3, 0, 2, 2));
        askPart(desk, 3, answers);
    }

    private static void askRoomInParts(MaskDesk desk, Answers answers) {
        for (int i = 0; i < 42; i++) {
            answers.add(desk.box(i % 6, 0, 0, 1, 1));
        }
        for (int i = 0; i < 25; i++) {
            answers.add(desk.place(i % 5 + 1, 0, 1, 1));
        }
        for (int c = 0; c < 6; c++) {
            answers.add(desk.expand(0, c, 8, 8));
        }
    }
}
