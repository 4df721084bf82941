/** The boundary cases of promises 7 to 12, and of what a part HAS: one test a sentence. */
public final class PartEdgesTest {
    private static final Expect expect = new Expect("PartEdgesTest");
    private static final Refusals refusals = Refusals.onBusyDesk(expect);
    private static final int[] PARTS = {0, 5};
    private static final int[] PLACES = {-16, 16};

    public static void main(String[] args) {
        boxBounds();
        boxesOfEachKind();
        boxSeven();
        atBounds();
        atFirst();
        atFromNowOn();
        stepsBounds();
        stepsFirst();
        stepsFromNowOn();
        placeBounds();
        placeOfEachInEach();
        placeOfEachNumber();
        placeFive();
        clearBounds();
        clearTakesAll();
        clearLeavesPlaceAndSteps();
        clearMakesRoom();
        hasWhatCameBehind();
        hasWhatIsLeft();
        expandBounds();
        expandFarthest();
        expandTwoHundred();
        expandFarTooMany();
        expandOfNothing();
        expandOffThePlate();
        expandPartlyOff();
        expandCopiesOff();
        expandOnWhatIsThere();
        expect.finish();
    }

    // Promise 7: "false, refused, if there is no such part, it has 6, x or y is not -16 .. 16, or w
    // or h not 1 .. 16".

    private static final Refusals.Call BOX = (desk, a) -> Refusals.told(desk.box(a[0], a[1], a[2], a[3], a[4]));

    private static void boxBounds() {
        int[] sides = {1, 16};
        refusals.bounds("box", BOX, new int[] {1, 2, 3, 4, 5}, PARTS, PLACES, PLACES, sides, sides);
        refusals.bounds("box", BOX, new int[] {5, 16, -16, 16, 1}, PARTS, PLACES, PLACES, sides, sides);
    }

    /** Each is moved to the plate's lower left: all places and sides come out as they went in. */
    private static void boxesOfEachKind() {
        for (int i = 0; i < 33 * 16; i++) {
            int place = i % 33 - 16;
            int side = i / 33 + 1;
            MaskDesk desk = new MaskDesk();
            String what = "box from " + place + ", " + side + " long";
            expect.yes(what, desk.box(0, place, -place, side, 2));
            expect.due(what, desk.expand(0, 0, -place, place), 1);
            expect.due(what, desk.measure(0, 0), side * 2);
            expect.yes(what, desk.filled(0, 0, 0));
            expect.yes(what, desk.filled(0, side - 1, 1));
            expect.yes(what, desk.box(1, -place, place, 3, side));
            expect.due(what, desk.expand(1, 1, place, -place), 1);
            expect.due(what, desk.measure(1, 0), side * 3);
            expect.yes(what, desk.filled(1, 2, side - 1));
        }
    }

    private static void boxSeven() {
        for (int c = 0; c < 6; c++) {
            int part = c;
            MaskDesk desk = new MaskDesk();
            for (int i = 0; i < 6; i++) {
                expect.yes("box " + (i + 1) + " of part " + c, desk.box(c, i, 0, 1, 1));
            }
            expect.no("box 7 of part " + c, desk.box(c, 9, 9, 1, 1));
            expect.due("the 6 before it", desk.expand(0, c, 0, 0), 6);
            expect.due("the 6 before it", desk.measure(0, 0), 6);
            expect.no("box 7 of part " + c, desk.filled(0, 9, 9));
            for (int other = 0; other < 6; other++) {
                expect.due("a box of part " + other, desk.box(other, 0, 0, 1, 1), other != c);
            }
            Refusals full = Refusals.onBusyDesk(expect, one -> {
                one.clear(part);
                for (int i = 0; i < 6; i++) {
                    one.box(part, i, i, 1, 2);
                }
            });
            full.refused("box", BOX, c, 0, 0, 1, 1);
            full.refused("box", BOX, c, -16, 16, 16, 1);
            full.refused("box", BOX, c, 17, 0, 1, 1);
        }
    }

    // Promise 8: "at first 0, 0 and 0; clear() leaves them"; "false, refused, if x or y is not
    // -16 .. 16, or the turn not 0 .. 7".

    private static final Refusals.Call AT = (desk, a) -> Refusals.told(desk.at(a[0], a[1], a[2]));

    private static void atBounds() {
        refusals.bounds("at", AT, new int[] {5, 6, 7}, PLACES, PLACES, new int[] {0, 7});
        refusals.bounds("at", AT, new int[] {-16, 16, 0}, PLACES, PLACES, new int[] {0, 7});
    }

    private static void atFirst() {
        MaskDesk desk = new MaskDesk();
        desk.box(0, 3, 1, 2, 4);
        expect.yes("place before any at", desk.place(1, 0, 1, 1));
        expect.due("place before any at", desk.expand(0, 1, 0, 0), 1);
        expect.shape("place before any at", desk, 0, "...##", "...##", "...##", "...##", "");
    }

    /** "of placements that come from now on": those before keep theirs; the farthest places work. */
    private static void atFromNowOn() {
        MaskDesk desk = new MaskDesk();
        desk.box(0, 0, 0, 1, 1);
        desk.at(-16, 16, 0);
        desk.place(1, 0, 1, 1);
        desk.at(16, -16, 0);
        desk.place(2, 0, 1, 1);
        desk.at(4, 5, 2);
        desk.place(3, 0, 1, 1);
        desk.place(3, 0, 1, 1);
        expect.due("at -16, 16", desk.expand(0, 1, 16, -16), 1);
        expect.yes("at -16, 16", desk.filled(0, 0, 0));
        expect.due("at 16, -16", desk.expand(1, 2, -16, 16), 1);
        expect.yes("at 16, -16", desk.filled(1, 0, 0));
        expect.due("at 4, 5", desk.expand(2, 3, 0, 0), 2);
        expect.due("at 4, 5", desk.measure(2, 0), 1);
        expect.yes("at 4, 5", desk.filled(2, 3, 4));
    }

    // Promise 9: "at first 0 and 0"; "false, refused, if one is not -16 .. 16".

    private static final Refusals.Call STEPS = (desk, a) -> Refusals.told(desk.steps(a[0], a[1]));

    private static void stepsBounds() {
        refusals.bounds("steps", STEPS, new int[] {5, 6}, PLACES, PLACES);
        refusals.bounds("steps", STEPS, new int[] {-16, 16}, PLACES, PLACES);
    }

    private static void stepsFirst() {
        MaskDesk desk = new MaskDesk();
        desk.box(0, 3, 1, 2, 4);
        expect.yes("place before any steps", desk.place(1, 0, 4, 4));
        expect.due("place before any steps", desk.expand(0, 1, 0, 0), 16);
        expect.due("place before any steps", desk.measure(0, 0), 8);
    }

    private static void stepsFromNowOn() {
        MaskDesk desk = new MaskDesk();
        desk.box(0, 0, 0, 1, 1);
        desk.steps(3, -2);
        desk.place(1, 0, 2, 2);
        desk.steps(-16, 16);
        desk.place(2, 0, 2, 1);
        desk.place(3, 0, 1, 2);
        expect.due("steps 3, -2", desk.expand(0, 1, 0, 2), 4);
        expect.shape("steps 3, -2", desk, 0, "#..#", "....", "#..#");
        // Two copies 16 apart are never on the plate at once, one alone is.
        expect.none("steps -16", desk.expand(1, 2, 16, 0));
        expect.none("steps -16", desk.expand(1, 2, 0, 0));
        expect.none("steps 16", desk.expand(1, 3, 0, 0));
        desk.place(4, 0, 1, 1);
        expect.due("one copy takes no step", desk.expand(1, 4, 0, 0), 1);
        desk.clear(1);
        desk.clear(2);
        desk.steps(5, 5);
        desk.place(1, 0, 4, 1);
        expect.due("4 copies take 3 steps", desk.expand(2, 1, 0, 0), 4);
        expect.yes("4 copies take 3 steps", desk.filled(2, 15, 0));
        desk.place(2, 0, 1, 4);
        expect.due("4 copies take 3 steps", desk.expand(2, 2, 0, 0), 4);
        expect.yes("4 copies take 3 steps", desk.filled(2, 0, 15));
        expect.due("4 copies take 3 steps", desk.measure(2, 0), 7);
    }

    // Promise 10: "false, refused, if there is no such part, d is not less than c, c has 4, or n or
    // m is not 1 .. 4".

    private static final Refusals.Call PLACE = (desk, a) -> Refusals.told(desk.place(a[0], a[1], a[2], a[3]));

    private static void placeBounds() {
        int[] copies = {1, 4};
        refusals.bounds("place", PLACE, new int[] {3, 2, 1, 2}, new int[] {3, 5}, new int[] {0, 2}, copies, copies);
        refusals.bounds("place", PLACE, new int[] {5, 0, 4, 1}, new int[] {1, 5}, new int[] {0, 4}, copies, copies);
        refusals.bounds("place", PLACE, new int[] {1, 0, 1, 4}, new int[] {1, 5}, new int[] {0, 0}, copies, copies);
    }

    private static void placeOfEachInEach() {
        for (int i = 0; i < 100; i++) {
            int c = i % 10 - 2;
            int d = i / 10 - 2;
            boolean may = d >= 0 && d < c && c <= 5;
            MaskDesk desk = new MaskDesk();
            for (int part = 0; part < 6; part++) {
                desk.box(part, part, 0, 1, 1);
            }
            String what = "place(" + c + ", " + d + ", 1, 1)";
            expect.due(what, desk.place(c, d, 1, 1), may);
            for (int part = 0; part < 6; part++) {
                boolean placed = may && part == c;
                desk.join(0, 0, 0, 3);
                expect.due(what + ": part " + part, desk.expand(0, part, 0, 0), placed ? 2 : 1);
                expect.yes(what + ": part " + part, desk.filled(0, part, 0));
                expect.due(what + ": part " + part, desk.measure(0, 0), placed ? 2 : 1);
                expect.due(what + ": part " + part, placed && desk.filled(0, d, 0), placed);
            }
        }
    }

    private static void placeOfEachNumber() {
        for (int n = -2; n <= 7; n++) {
            for (int m = -2; m <= 7; m++) {
                boolean may = n >= 1 && n <= 4 && m >= 1 && m <= 4;
                MaskDesk desk = new MaskDesk();
                desk.box(0, 0, 0, 1, 1);
                desk.steps(2, 3);
                String what = "place(1, 0, " + n + ", " + m + ")";
                expect.due(what, desk.place(1, 0, n, m), may);
                expect.due(what, desk.expand(0, 1, 0, 0), may ? n * m : 0);
                expect.due(what, desk.measure(0, 0), may ? n * m : 0);
                expect.due(what, desk.filled(0, 2 * n - 2, 3 * m - 3), may);
            }
        }
    }

    private static void placeFive() {
        for (int c = 1; c < 6; c++) {
            int part = c;
            MaskDesk desk = new MaskDesk();
            desk.box(0, 0, 0, 1, 1);
            for (int i = 0; i < 4; i++) {
                desk.at(i, 0, 0);
                expect.yes("placement " + (i + 1) + " in part " + c, desk.place(c, 0, 1, 1));
            }
            desk.at(9, 9, 0);
            expect.no("placement 5 in part " + c, desk.place(c, 0, 1, 1));
            expect.due("the 4 before it", desk.expand(0, c, 0, 0), 4);
            expect.due("the 4 before it", desk.measure(0, 0), 4);
            expect.no("placement 5 in part " + c, desk.filled(0, 9, 9));
            for (int other = 1; other < 6; other++) {
                expect.due("a placement in part " + other, desk.place(other, 0, 1, 1), other != c);
            }
            Refusals full = Refusals.onBusyDesk(expect, one -> {
                one.clear(part);
                for (int i = 0; i < 4; i++) {
                    one.at(i, i, 0);
                    one.place(part, 0, 1, 1);
                }
                one.at(7, 7, 3);
            });
            full.refused("place", PLACE, c, 0, 1, 1);
            full.refused("place", PLACE, c, c - 1, 4, 3);
            full.refused("place", PLACE, c, c, 1, 1);
        }
    }

    // Promise 11: "Part c has nothing any more: true; false if there is none such".

    private static final Refusals.Call CLEAR = (desk, a) -> Refusals.told(desk.clear(a[0]));

    private static void clearBounds() {
        refusals.bounds("clear", CLEAR, new int[] {2}, PARTS);
    }

    /** A part with all that it can hold; each other part keeps its own. */
    private static void clearTakesAll() {
        for (int c = 0; c < 6; c++) {
            MaskDesk desk = new MaskDesk();
            for (int part = 0; part < 6; part++) {
                desk.box(part, 0, 0, 1, 1);
                desk.box(part, 0, part, 1, 1);
            }
            for (int i = 0; i < 4; i++) {
                desk.box(c, i, i, 1, 1);
                desk.place(c, 0, 1, 1);
            }
            expect.yes("clear(" + c + ")", desk.clear(c));
            for (int part = 0; part < 6; part++) {
                expect.due("clear(" + c + "): part " + part, desk.expand(part, part, 0, 0), part == c ? 0 : 2);
            }
            expect.due("clear(" + c + "): nothing is filled", desk.measure(c, 0), 0);
            expect.yes("clear(" + c + ") again", desk.clear(c));
        }
    }

    private static void clearLeavesPlaceAndSteps() {
        MaskDesk desk = new MaskDesk();
        desk.at(4, 3, 1);
        desk.steps(2, 5);
        for (int c = 0; c < 6; c++) {
            desk.clear(c);
        }
        desk.box(0, 0, 0, 2, 1);
        desk.place(1, 0, 2, 2);
        expect.due("clear leaves place, turn and steps", desk.expand(0, 1, 0, 0), 4);
        expect.shape("clear leaves place, turn and steps", desk, 0,
            "...#.#", "...#.#", "......", "......", "......", "...#.#", "...#.#", "", "", "");
    }

    private static void clearMakesRoom() {
        MaskDesk desk = new MaskDesk();
        for (int round = 0; round < 3; round++) {
            for (int i = 0; i < 6; i++) {
                expect.yes("box " + i, desk.box(3, 0, 0, 1, 1));
            }
            expect.no("box 7", desk.box(3, 0, 0, 1, 1));
            for (int i = 0; i < 4; i++) {
                expect.yes("placement " + i, desk.place(3, 2, 1, 1));
            }
            expect.no("placement 5", desk.place(3, 2, 1, 1));
            expect.due("what there is", desk.expand(0, 3, 0, 0), 6);
            expect.yes("clear", desk.clear(3));
            expect.due("what there is", desk.expand(0, 3, 0, 0), 0);
        }
    }

    // What a part HAS: "as they are when it is asked for (whatever came to d behind its placement)".

    private static void hasWhatCameBehind() {
        MaskDesk desk = new MaskDesk();
        desk.at(3, 0, 0);
        desk.steps(0, 4);
        desk.place(2, 1, 1, 2);
        desk.at(0, 1, 0);
        desk.steps(6, 0);
        desk.place(1, 0, 2, 1);
        expect.due("nothing has come yet", desk.expand(0, 2, 0, 0), 0);
        desk.box(0, 0, 0, 1, 1);
        expect.due("a box came to the innermost", desk.expand(0, 2, 0, 0), 4);
        expect.yes("a box came to the innermost", desk.filled(0, 9, 5));
        desk.box(1, 5, 5, 1, 1);
        expect.due("a box came to the middle one", desk.expand(0, 2, 0, 0), 6);
        desk.box(2, 0, 0, 1, 1);
        expect.due("a box came to the part itself", desk.expand(0, 2, 0, 0), 7);
        desk.at(1, 0, 0);
        desk.place(1, 0, 1, 1);
        expect.due("a placement came to the middle one", desk.expand(0, 2, 0, 0), 9);
        desk.at(-9, 9, 3);
        desk.steps(1, 1);
        expect.due("place and steps that come later are not theirs", desk.expand(1, 2, 0, 0), 9);
        expect.shape("all of it", desk, 1,
            "........#", "...", "...", "...", "...#....##", "....#", "...", "...", "...#.....#", "#...#");
    }

    private static void hasWhatIsLeft() {
        MaskDesk desk = new MaskDesk();
        desk.box(0, 0, 0, 1, 1);
        desk.box(1, 1, 0, 1, 1);
        desk.place(1, 0, 1, 1);
        desk.place(2, 1, 1, 1);
        expect.due("before", desk.expand(0, 2, 0, 0), 2);
        desk.clear(0);
        expect.due("the innermost is cleared", desk.expand(0, 2, 0, 0), 1);
        desk.clear(1);
        expect.due("the middle one is cleared", desk.expand(0, 2, 0, 0), 0);
        desk.box(0, 2, 2, 1, 1);
        expect.due("its placement is gone with it", desk.expand(0, 2, 0, 0), 0);
        desk.box(1, 3, 3, 1, 1);
        expect.due("the placement of it is not", desk.expand(1, 2, 0, 0), 1);
        expect.yes("the placement of it is not", desk.filled(1, 3, 3));
        expect.due("shapes keep what was laid out", desk.measure(0, 0), 2);
    }

    // Promise 12: "NONE, refused, if there is no such part or shape, x or y is not -32 .. 32, there
    // are more than 200 rectangles, or a cell of one is off the plate".

    private static final Refusals.Call EXPAND = (desk, a) -> desk.expand(a[0], a[1], a[2], a[3]);

    private static void expandBounds() {
        int[] moves = {-32, 32};
        // Part 3 has nothing, so it may be moved as far as any may.
        refusals.bounds("expand", EXPAND, new int[] {2, 3, 6, 6}, new int[] {0, 5}, PARTS, moves, moves);
        refusals.bounds("expand", EXPAND, new int[] {0, 3, -32, 32}, new int[] {0, 5}, new int[] {3, 3}, moves, moves);
        refusals.bounds("expand", EXPAND, new int[] {5, 4, 6, 6}, new int[] {0, 5}, PARTS,
            new int[] {-1, 13}, new int[] {-3, 11});
    }

    /** A cell as far off as one move brings back, and one beyond that. */
    private static void expandFarthest() {
        int[][] ends = {{-16, -16}, {16, 16}, {-16, 16}, {16, -16}};
        for (int[] end : ends) {
            MaskDesk desk = new MaskDesk();
            desk.box(0, end[0], end[1], 1, 1);
            desk.at(end[0], end[1], 0);
            desk.place(1, 0, 1, 1);
            desk.place(2, 1, 1, 1);
            expect.due("moved by 32", desk.expand(0, 1, -2 * end[0], -2 * end[1]), 1);
            expect.yes("moved by 32", desk.filled(0, 0, 0));
            expect.none("48 off and moved by 32", desk.expand(1, 2, -2 * end[0], -2 * end[1]));
            expect.none("48 off and moved by 33", desk.expand(1, 2, -2 * end[0] - Integer.signum(end[0]), 0));
            expect.due("48 off", desk.measure(1, 0), 0);
        }
    }

    /** 5 boxes 40 times are 200; each of these ways to more is too many. */
    private static void expandTwoHundred() {
        for (int way = 0; way < 4; way++) {
            MaskDesk desk = new MaskDesk();
            for (int i = 0; i < 5; i++) {
                desk.box(0, i, 0, 1, 1);
            }
            desk.box(3, 5, 5, 1, 1);
            desk.steps(0, 1);
            desk.place(1, 0, 2, 4);
            desk.place(2, 1, 4, 1);
            expect.due("160", desk.expand(0, 2, 0, 0), 160);
            desk.place(2, 1, 1, 1);
            expect.due("200", desk.expand(1, 2, 0, 0), 200);
            expect.due("200", desk.measure(1, 0), 20);
            desk.place(4, 2, 1, 1);
            expect.due("200, placed once more", desk.expand(1, 4, 0, 0), 200);
            switch (way) {
                case 0:
                    desk.box(4, 0, 0, 1, 1);
                    break;
                case 1:
                    desk.place(4, 3, 1, 1);
                    break;
                case 2:
                    desk.box(2, 0, 0, 1, 1);
                    break;
                default:
                    desk.box(0, 0, 0, 1, 1);
                    break;
            }
            expect.none("201 or more, way " + way, desk.expand(2, 4, 0, 0));
            expect.due("201 or more fill nothing", desk.measure(2, 0), 0);
        }
        expandTwoHundredAndOne();
    }

    private static void expandTwoHundredAndOne() {
        Refusals tooMany = Refusals.onBusyDesk(expect, desk -> {
            desk.clear(0);
            for (int i = 0; i < 5; i++) {
                desk.box(0, i, 0, 1, 1);
            }
            desk.clear(1);
            desk.clear(2);
            desk.at(0, 0, 0);
            desk.steps(1, 1);
            desk.place(1, 0, 2, 4);
            desk.place(2, 1, 4, 1);
            desk.place(2, 1, 1, 1);
            desk.place(3, 2, 1, 1);
            desk.place(4, 2, 1, 1);
        });
        tooMany.taken("expand", EXPAND, 0, 2, 0, 0);
        tooMany.taken("expand", EXPAND, 0, 3, 0, 0);
        // Part 4 has a box of its own.
        tooMany.refused("expand", EXPAND, 0, 4, 0, 0);
    }

    /** Numbers of rectangles that come back to few where a count wraps around: 2 to the 32nd. */
    private static void expandFarTooMany() {
        for (int boxes = 1; boxes <= 6; boxes++) {
            for (int beside = 0; beside < 2; beside++) {
                MaskDesk desk = new MaskDesk();
                for (int i = 0; i < boxes; i++) {
                    desk.box(0, 0, 0, 1, 1);
                }
                for (int c = 1; c < 6; c++) {
                    for (int k = 0; k < 4; k++) {
                        desk.place(c, c - 1, 4, 4);
                    }
                }
                if (beside == 1) {
                    desk.box(5, 1, 1, 1, 1);
                }
                expect.none(boxes + " boxes 2 to the 30th times", desk.expand(0, 5, 0, 0));
                expect.none(boxes + " boxes 2 to the 24th times", desk.expand(0, 4, 0, 0));
                expect.none(boxes + " boxes 2 to the 18th times", desk.expand(0, 3, 0, 0));
                expect.none(boxes + " boxes 2 to the 12th times", desk.expand(0, 2, 0, 0));
                expect.due("they fill nothing", desk.measure(0, 0), 0);
                int times64 = boxes > 3 ? MaskDesk.NONE : boxes * 64;
                expect.due(boxes + " boxes 64 times", desk.expand(1, 1, 0, 0), times64);
                expect.due(boxes + " boxes", desk.expand(2, 0, 0, 0), boxes);
            }
        }
    }

    /** Nothing lies nowhere: no place and no number of copies brings it off the plate. */
    private static void expandOfNothing() {
        MaskDesk desk = new MaskDesk();
        desk.rect(0, 7, 7, 1, 1);
        desk.at(16, 16, 3);
        desk.steps(16, -16);
        for (int c = 1; c < 6; c++) {
            for (int k = 0; k < 4; k++) {
                desk.place(c, c - 1, 4, 4);
            }
        }
        for (int c = 0; c < 6; c++) {
            expect.due("nothing, part " + c, desk.expand(0, c, 32, -32), 0);
            expect.none("nothing, moved too far", desk.expand(0, c, 33, 0));
            expect.none("nothing, moved too far", desk.expand(0, c, 0, -33));
        }
        expect.due("nothing is filled by it", desk.measure(0, 0), 1);
        desk.box(5, 0, 0, 3, 3);
        expect.due("a box beside nothing", desk.expand(1, 5, 13, 13), 1);
        expect.due("a box beside nothing", desk.measure(1, 0), 9);
    }

    /** A box of each side and each move about the plate. */
    private static void expandOffThePlate() {
        for (int i = 0; i < 65 * 16; i++) {
            int move = i % 65 - 32;
            int side = i / 65 + 1;
            boolean fits = move >= 0 && move + side <= 16;
            MaskDesk desk = new MaskDesk();
            desk.box(0, 0, 0, side, 1);
            desk.box(1, 0, 0, 1, side);
            String what = side + " long, moved by " + move;
            expect.due(what, desk.expand(0, 0, move, 3), fits ? 1 : MaskDesk.NONE);
            expect.due(what, desk.expand(1, 1, 3, move), fits ? 1 : MaskDesk.NONE);
            for (int s = 0; s < 2; s++) {
                expect.due(what, desk.measure(s, 0), fits ? side : 0);
                expect.due(what, desk.filled(s, s == 0 ? move + side - 1 : 3, s == 0 ? 3 : move + side - 1), fits);
            }
        }
    }

    /** One of several is off, be it the first, the last, or one that is placed: none is filled. */
    private static void expandPartlyOff() {
        int[][] moves = {{-1, 0}, {1, 0}, {0, -1}, {0, 1}};
        for (int off = 0; off < 4; off++) {
            for (int[] move : moves) {
                int part = off;
                Refusals partly = Refusals.onBusyDesk(expect, desk -> {
                    for (int c = 0; c < 6; c++) {
                        desk.clear(c);
                    }
                    desk.at(0, 0, 0);
                    desk.box(3, 5, 5, 2, 2);
                    desk.box(part, 0, 0, 16, 16);
                    desk.box(3, 7, 7, 2, 2);
                    for (int c = 0; c < 3; c++) {
                        desk.place(3, c, 1, 1);
                    }
                });
                partly.taken("expand", EXPAND, 0, 3, 0, 0);
                partly.refused("expand", EXPAND, 0, 3, move[0], move[1]);
            }
        }
    }

    /** Only the last of the copies is off, on each side, for each turn. */
    private static void expandCopiesOff() {
        for (int turn = 0; turn < 8; turn++) {
            for (int i = 0; i < 49; i++) {
                int x = i % 7;
                int y = i / 7;
                MaskDesk desk = new MaskDesk();
                desk.box(0, -1, -1, 2, 2);
                desk.at(8, 8, turn);
                desk.steps(3, 3);
                desk.place(1, 0, 2, 2);
                boolean fits = x + 1 <= 5 && y + 1 <= 5;
                String what = "turn " + turn + ", moved by " + x + ", " + y;
                expect.due(what, desk.expand(0, 1, x, y), fits ? 4 : MaskDesk.NONE);
                expect.due(what, desk.measure(0, 0), fits ? 16 : 0);
                expect.due(what + " back", desk.expand(1, 1, -x - 2, -y - 2), x < 6 && y < 6 ? 4 : MaskDesk.NONE);
            }
        }
    }

    private static void expandOnWhatIsThere() {
        MaskDesk desk = new MaskDesk();
        desk.rect(5, 0, 0, 16, 16);
        desk.rect(4, 2, 2, 1, 1);
        desk.box(5, 2, 2, 2, 1);
        expect.due("on a full shape", desk.expand(5, 5, 0, 0), 1);
        expect.due("on a full shape", desk.measure(5, 0), 256);
        expect.due("beside what there is", desk.expand(4, 5, 1, 1), 1);
        expect.due("beside what there is", desk.measure(4, 0), 3);
        expect.due("once more", desk.expand(4, 5, 1, 1), 1);
        expect.due("once more", desk.measure(4, 0), 3);
    }
}
