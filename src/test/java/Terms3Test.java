/** "Terms" 3: the layouts where there are few tiles or none, no masters, or next to no room; points on edges. */
public final class Terms3Test extends DeskChecks {
    public static void main(String[] args) throws Exception {
        CHECKS.runAll(Terms3Test.class);
    }

    // ---- TO STACK, TO LINE UP

    /** STACK: "one alone has all". */
    static void p24OneStackedHasAll() {
        dueBoxes(laidOut(1, 7, 5, TALL, 0, 500), box(10, 20, 7, 5));
    }

    /** STACK: "the first one has its whole width and height / k (cut), the others are STACKED in what is left below". */
    static void p24StackedHeightsAreCut() {
        dueBoxes(laidOut(3, 7, 9, TALL, 0, 500), box(10, 20, 7, 3), box(10, 23, 7, 3), box(10, 26, 7, 3));
        dueBoxes(laidOut(3, 7, 10, TALL, 0, 500), box(10, 20, 7, 3), box(10, 23, 7, 3), box(10, 26, 7, 4));
        dueBoxes(laidOut(3, 7, 8, TALL, 0, 500), box(10, 20, 7, 2), box(10, 22, 7, 3), box(10, 25, 7, 3));
    }

    /** STACK where the height is below k: the first ones have none of it. */
    static void p24StackedWithoutHeight() {
        dueBoxes(laidOut(3, 7, 2, TALL, 0, 500), box(10, 20, 7, 0), box(10, 20, 7, 1), box(10, 21, 7, 1));
        PaneDesk sixty = laidOut(60, 7, 1, TALL, 0, 500);
        dueBox(sixty, 59, 10, 20, 7, 0);
        dueBox(sixty, 1, 10, 20, 7, 0);
        dueBox(sixty, 0, 10, 20, 7, 1);
    }

    /** LINE UP: "likewise from the left, by width" (all STACKED, turned by WIDE). */
    static void p24LinedUp() {
        dueBoxes(laidOut(1, 7, 5, WIDE, 0, 500), box(10, 20, 7, 5));
        dueBoxes(laidOut(3, 8, 5, WIDE, 0, 500), box(10, 20, 2, 5), box(12, 20, 3, 5), box(15, 20, 3, 5));
        dueBoxes(laidOut(3, 2, 5, WIDE, 0, 500), box(10, 20, 0, 5), box(10, 20, 1, 5), box(11, 20, 1, 5));
    }

    // ---- TALL

    /** TALL: "if n is not above m .. all are STACKED": n below m, and n as many as m. */
    static void p24TallWhereNIsNotAboveM() {
        dueBoxes(laidOut(2, 10, 10, TALL, 60, 300), box(10, 20, 10, 5), box(10, 25, 10, 5));
        dueBoxes(laidOut(2, 10, 10, TALL, 3, 300), box(10, 20, 10, 5), box(10, 25, 10, 5));
        dueBoxes(laidOut(2, 10, 10, TALL, 2, 300), box(10, 20, 10, 5), box(10, 25, 10, 5));
    }

    /** TALL where n is one above m: the others are one alone. */
    static void p24TallWhereNIsOneAboveM() {
        dueBoxes(laidOut(3, 10, 10, TALL, 2, 300), box(10, 20, 3, 5), box(10, 25, 3, 5), box(13, 20, 7, 10));
    }

    /** TALL: "or m is 0, all are STACKED". */
    static void p24TallWithoutMasters() {
        dueBoxes(laidOut(2, 10, 10, TALL, 0, 300), box(10, 20, 10, 5), box(10, 25, 10, 5));
    }

    /** TALL with one tile alone: it has all, with and without masters. */
    static void p24TallWithOneTile() {
        dueBoxes(laidOut(1, 10, 10, TALL, 0, 300), box(10, 20, 10, 10));
        dueBoxes(laidOut(1, 10, 10, TALL, 1, 300), box(10, 20, 10, 10));
    }

    /** TALL: masters are 0 .. 60: with 60 of 60 all are STACKED, with 59 one is on the right. */
    static void p24TallWithSixty() {
        PaneDesk desk = with(60);
        desk.shape(60, 500);
        dueBox(desk, 59, 0, 0, 800, 10);
        dueBox(desk, 0, 0, 590, 800, 10);
        desk.shape(59, 500);
        dueBox(desk, 59, 0, 0, 400, 10);
        dueBox(desk, 1, 0, 589, 400, 11);
        dueBox(desk, 0, 400, 0, 400, 600);
    }

    /** TALL: "the left side is w * p / 1000 wide (cut". */
    static void p24TallWidthIsCut() {
        dueBoxes(laidOut(2, 101, 9, TALL, 1, 333), box(10, 20, 33, 9), box(43, 20, 68, 9));
        dueBoxes(laidOut(2, 3, 9, TALL, 1, 666), box(10, 20, 1, 9), box(11, 20, 2, 9));
        dueBoxes(laidOut(2, 3, 9, TALL, 1, 667), box(10, 20, 2, 9), box(12, 20, 1, 9));
    }

    /** TALL: "but 1 at least": a part of 0, and one that the width cuts to 0. */
    static void p24TallHasOneAtLeast() {
        dueBoxes(laidOut(2, 100, 9, TALL, 1, 0), box(10, 20, 1, 9), box(11, 20, 99, 9));
        dueBoxes(laidOut(2, 100, 9, TALL, 1, 9), box(10, 20, 1, 9), box(11, 20, 99, 9));
        dueBoxes(laidOut(2, 100, 9, TALL, 1, 20), box(10, 20, 2, 9), box(12, 20, 98, 9));
    }

    /** TALL: "and w - 1 at most": a part of 1000, and one below it that is w - 1 by itself. */
    static void p24TallHasAllButOneAtMost() {
        dueBoxes(laidOut(2, 100, 9, TALL, 1, 1000), box(10, 20, 99, 9), box(109, 20, 1, 9));
        dueBoxes(laidOut(2, 100, 9, TALL, 1, 999), box(10, 20, 99, 9), box(109, 20, 1, 9));
        dueBoxes(laidOut(2, 100, 9, TALL, 1, 980), box(10, 20, 98, 9), box(108, 20, 2, 9));
    }

    /** TALL where w is 2: each side has 1, whatever the part. */
    static void p24TallWhereWIsTwo() {
        for (int part : new int[] {0, 500, 1000}) {
            dueBoxes(laidOut(2, 2, 9, TALL, 1, part), box(10, 20, 1, 9), box(11, 20, 1, 9));
        }
    }

    /** TALL: "Where w is 1 the left side has 1, the right one nothing." */
    static void p24TallWhereWIsOne() {
        for (int part : new int[] {0, 500, 1000}) {
            PaneDesk desk = laidOut(3, 1, 9, TALL, 1, part);
            dueBoxes(desk, box(10, 20, 1, 9), box(11, 20, 0, 4), box(11, 24, 0, 5));
            due("at(10, 20)", desk.at(10, 20), 2);
            due("at(11, 20)", desk.at(11, 20), NONE);
        }
    }

    /** "LAYOUTS of n TILES, in ORDER": windows that float are not among them, the master's place is the first TILE's. */
    static void p24FloatingOnesAreNoTiles() {
        PaneDesk desk = laidOut(4, 100, 10, TALL, 1, 300);
        desk.lift(3, 0, 0, 0, 0);
        desk.lift(1, 0, 0, 0, 0);
        dueBox(desk, 2, 10, 20, 30, 10);
        dueBox(desk, 0, 40, 20, 70, 10);
        desk.lift(2, 0, 0, 0, 0);
        dueBox(desk, 0, 10, 20, 100, 10);
    }

    // ---- WIDE

    /** WIDE: "TALL with x and y, w and h for one another, and back": masters on top, lined up. */
    static void p24WideTurnsTall() {
        dueBoxes(laidOut(4, 9, 100, WIDE, 2, 333),
            box(10, 20, 4, 33), box(14, 20, 5, 33), box(10, 53, 4, 67), box(14, 53, 5, 67));
    }

    /** WIDE where n is not above m, or m is 0: all are LINED UP; one alone has all. */
    static void p24WideWithoutTwoSides() {
        dueBoxes(laidOut(2, 9, 100, WIDE, 2, 300), box(10, 20, 4, 100), box(14, 20, 5, 100));
        dueBoxes(laidOut(2, 9, 100, WIDE, 0, 300), box(10, 20, 4, 100), box(14, 20, 5, 100));
        dueBoxes(laidOut(1, 9, 100, WIDE, 1, 300), box(10, 20, 9, 100));
    }

    /** WIDE: the upper side has 1 at least and h - 1 at most. */
    static void p24WideHasOneAtLeastAndAllButOneAtMost() {
        dueBoxes(laidOut(2, 9, 100, WIDE, 1, 0), box(10, 20, 9, 1), box(10, 21, 9, 99));
        dueBoxes(laidOut(2, 9, 100, WIDE, 1, 1000), box(10, 20, 9, 99), box(10, 119, 9, 1));
    }

    /** WIDE where h is 1: the upper side has 1, the lower one nothing. */
    static void p24WideWhereHIsOne() {
        for (int part : new int[] {0, 500, 1000}) {
            dueBoxes(laidOut(2, 9, 1, WIDE, 1, part), box(10, 20, 9, 1), box(10, 21, 9, 0));
        }
    }

    // ---- FULL

    /** FULL: "the focus of the workspace has the whole rectangle, if it is a TILE"; "others are not shown". */
    static void p24FullShowsTheFocus() {
        PaneDesk desk = laidOut(3, 9, 8, FULL, 1, 500);
        desk.focus(1);
        dueBox(desk, 1, 10, 20, 9, 8);
        dueNotShown(desk, 2);
        dueNotShown(desk, 0);
        due("at(18, 27)", desk.at(18, 27), 1);
    }

    /** FULL: "else the first TILE": the focus floats, and so does the first one in ORDER. */
    static void p24FullShowsTheFirstTile() {
        PaneDesk desk = laidOut(4, 9, 8, FULL, 1, 500);
        desk.lift(3, 0, 0, 0, 0);
        desk.lift(0, 500, 500, 500, 500);
        desk.focus(0);
        dueBox(desk, 2, 10, 20, 9, 8);
        dueNotShown(desk, 1);
        dueBox(desk, 3, 10, 20, 0, 0);
        dueBox(desk, 0, 14, 24, 4, 4);
        due("at(10, 20)", desk.at(10, 20), 2);
        due("at(14, 24)", desk.at(14, 24), 0);
    }

    /** FULL: "else the first TILE", where that is the first one in ORDER. */
    static void p24FullShowsTheFirstInOrder() {
        PaneDesk desk = laidOut(3, 9, 8, FULL, 1, 500);
        desk.lift(0, 0, 0, 0, 0);
        desk.focus(0);
        dueBox(desk, 2, 10, 20, 9, 8);
        dueNotShown(desk, 1);
    }

    /** FULL with one tile alone, and with no TILE: nothing stands where none is shown. */
    static void p24FullWithOneTileAndWithNone() {
        PaneDesk desk = laidOut(1, 9, 8, FULL, 1, 500);
        dueBox(desk, 0, 10, 20, 9, 8);
        desk.lift(0, 0, 0, 0, 0);
        dueBox(desk, 0, 10, 20, 0, 0);
        due("at(10, 20)", desk.at(10, 20), NONE);
        desk.close(0);
        dueNotShown(desk, 0);
        due("at(10, 20)", desk.at(10, 20), NONE);
    }

    /** FULL: "the focus of the workspace": of its own workspace, though another one is CURRENT. */
    static void p24FullOnAVisibleScreen() {
        PaneDesk desk = screens(2);
        openMore(desk, 3);
        desk.layout(FULL);
        desk.focus(1);
        desk.view(1, false);
        desk.open();
        dueBox(desk, 1, 0, 0, 100, 100);
        dueNotShown(desk, 2);
        dueBox(desk, 3, 100, 0, 100, 100);
    }

    // ---- GRID

    /** GRID with one tile: one column, one row. */
    static void p24GridOfOne() {
        dueBoxes(laidOut(1, 9, 8, GRID, 1, 500), box(10, 20, 9, 8));
    }

    /** GRID: "c is the least number with c * c not below n": two need two columns of one. */
    static void p24GridOfTwo() {
        dueBoxes(laidOut(2, 9, 8, GRID, 1, 500), box(10, 20, 4, 8), box(14, 20, 5, 8));
    }

    /** GRID: "the TILES are those from i * n / c up to (i + 1) * n / c less 1 (both cut)": the last column has more. */
    static void p24GridOfThree() {
        dueBoxes(laidOut(3, 9, 8, GRID, 1, 500), box(10, 20, 4, 8), box(14, 20, 5, 4), box(14, 24, 5, 4));
    }

    /** GRID of a whole square: c * c is n, not below it. */
    static void p24GridOfASquare() {
        dueBoxes(laidOut(4, 9, 8, GRID, 1, 500),
            box(10, 20, 4, 4), box(10, 24, 4, 4), box(14, 20, 5, 4), box(14, 24, 5, 4));
        PaneDesk nine = laidOut(9, 9, 9, GRID, 1, 500);
        dueBox(nine, 8, 10, 20, 3, 3);
        dueBox(nine, 0, 16, 26, 3, 3);
    }

    /** GRID of one more than a square: one column more. Of 5: 0, 1 2, 3 4; of 10: 0 1, 2 3 4, 5 6, 7 8 9. */
    static void p24GridAboveASquare() {
        dueBoxes(laidOut(5, 9, 8, GRID, 1, 500),
            box(10, 20, 3, 8), box(13, 20, 3, 4), box(13, 24, 3, 4), box(16, 20, 3, 4), box(16, 24, 3, 4));
        PaneDesk ten = laidOut(10, 9, 6, GRID, 1, 500);
        dueBox(ten, 8, 10, 23, 2, 3);
        dueBox(ten, 7, 12, 20, 2, 2);
        dueBox(ten, 4, 14, 20, 2, 3);
        dueBox(ten, 0, 16, 24, 3, 2);
    }

    /** GRID of sixty: eight columns of 7 or 8 in turn. */
    static void p24GridOfSixty() {
        PaneDesk desk = with(60);
        desk.layout(GRID);
        dueBox(desk, 59, 0, 0, 100, 85);
        dueBox(desk, 53, 0, 514, 100, 86);
        dueBox(desk, 52, 100, 0, 100, 75);
        dueBox(desk, 0, 700, 525, 100, 75);
    }

    /** GRID with less room than columns: the first ones have nothing. Masters and part do not count. */
    static void p24GridWithoutRoom() {
        dueBoxes(laidOut(4, 1, 1, GRID, 60, 0),
            box(10, 20, 0, 0), box(10, 20, 0, 1), box(10, 20, 1, 0), box(10, 20, 1, 1));
    }

    // ---- BALANCED

    /** BALANCED: "one alone has all". */
    static void p24BalancedOfOne() {
        dueBoxes(laidOut(1, 9, 8, BALANCED, 1, 500), box(10, 20, 9, 8));
        dueBoxes(laidOut(1, 8, 9, BALANCED, 1, 500), box(10, 20, 8, 9));
    }

    /** BALANCED: "if w is not below h": by width where they are the same. */
    static void p24BalancedWhereWIsH() {
        dueBoxes(laidOut(2, 9, 9, BALANCED, 1, 500), box(10, 20, 4, 9), box(14, 20, 5, 9));
    }

    /** BALANCED: "if it is, likewise by height, at the top": where w is one below h. */
    static void p24BalancedWhereWIsBelowH() {
        dueBoxes(laidOut(2, 8, 9, BALANCED, 1, 500), box(10, 20, 8, 4), box(10, 24, 8, 5));
    }

    /** BALANCED: "a = (n + 1) / 2 (cut)": of an odd number the first part has one more, and w * a / n (cut) of the room. */
    static void p24BalancedOfAnOddNumber() {
        dueBoxes(laidOut(3, 10, 10, BALANCED, 1, 500), box(10, 20, 6, 5), box(10, 25, 6, 5), box(16, 20, 4, 10));
        dueBoxes(laidOut(3, 9, 10, BALANCED, 1, 500), box(10, 20, 4, 6), box(14, 20, 5, 6), box(10, 26, 9, 4));
    }

    /** BALANCED with no room: parts without width or height are parted all the same. */
    static void p24BalancedWithoutRoom() {
        dueBoxes(laidOut(2, 1, 1, BALANCED, 1, 500), box(10, 20, 0, 1), box(10, 20, 1, 1));
        dueBoxes(laidOut(3, 1, 1, BALANCED, 1, 500), box(10, 20, 0, 0), box(10, 20, 0, 1), box(10, 20, 1, 1));
    }

    /** BALANCED of sixty on 800, 600: 30 on 400, 15 at 400 by 300, 8 on 213, 4 at 213 by 150, 2 on 106, 1 at 106 by 75. */
    static void p24BalancedOfSixty() {
        PaneDesk desk = with(60);
        desk.layout(BALANCED);
        dueBox(desk, 59, 0, 0, 106, 75);
        dueBox(desk, 58, 0, 75, 106, 75);
        dueBox(desk, 57, 106, 0, 107, 75);
    }

    // ---- MIDDLE

    /** MIDDLE: "if n is not above m, or m is 0, as TALL": all are STACKED. */
    static void p24MiddleWithoutOthers() {
        dueBoxes(laidOut(2, 10, 10, MIDDLE, 3, 300), box(10, 20, 10, 5), box(10, 25, 10, 5));
        dueBoxes(laidOut(2, 10, 10, MIDDLE, 2, 300), box(10, 20, 10, 5), box(10, 25, 10, 5));
        dueBoxes(laidOut(3, 10, 9, MIDDLE, 0, 300), box(10, 20, 10, 3), box(10, 23, 10, 3), box(10, 26, 10, 3));
        dueBoxes(laidOut(1, 10, 10, MIDDLE, 1, 300), box(10, 20, 10, 10));
    }

    /** MIDDLE: "if n is m + 1, likewise": two columns, with TALL's w - 1 at most. */
    static void p24MiddleWithOneOther() {
        dueBoxes(laidOut(2, 10, 10, MIDDLE, 1, 300), box(10, 20, 3, 10), box(13, 20, 7, 10));
        dueBoxes(laidOut(2, 10, 10, MIDDLE, 1, 1000), box(10, 20, 9, 10), box(19, 20, 1, 10));
        dueBoxes(laidOut(3, 10, 10, MIDDLE, 2, 300), box(10, 20, 3, 5), box(10, 25, 3, 5), box(13, 20, 7, 10));
    }

    /** MIDDLE where n is m + 2: "the left column is (w less the masters') / 2 wide (cut), .. the right one has what is left". */
    static void p24MiddleWithTwoOthers() {
        dueBoxes(laidOut(3, 10, 10, MIDDLE, 1, 300), box(13, 20, 3, 10), box(16, 20, 4, 10), box(10, 20, 3, 10));
        dueBoxes(laidOut(4, 10, 10, MIDDLE, 2, 400),
            box(13, 20, 4, 5), box(13, 25, 4, 5), box(17, 20, 3, 10), box(10, 20, 3, 10));
    }

    /** MIDDLE: "of the others the first (n - m + 1) / 2 (cut) are STACKED on its right, the rest on its left". */
    static void p24MiddleWithMoreOthers() {
        dueBoxes(laidOut(4, 12, 10, MIDDLE, 1, 500),
            box(13, 20, 6, 10), box(19, 20, 3, 5), box(19, 25, 3, 5), box(10, 20, 3, 10));
        dueBoxes(laidOut(5, 12, 10, MIDDLE, 1, 500),
            box(13, 20, 6, 10), box(19, 20, 3, 5), box(19, 25, 3, 5), box(10, 20, 3, 5), box(10, 25, 3, 5));
    }

    /** MIDDLE: "1 at least, and w - 2 at most, if w is 3 or more". */
    static void p24MiddleHasOneAtLeastAndAllButTwoAtMost() {
        dueBoxes(laidOut(3, 10, 9, MIDDLE, 1, 0), box(14, 20, 1, 9), box(15, 20, 5, 9), box(10, 20, 4, 9));
        dueBoxes(laidOut(3, 10, 9, MIDDLE, 1, 1000), box(11, 20, 8, 9), box(19, 20, 1, 9), box(10, 20, 1, 9));
        dueBoxes(laidOut(3, 10, 9, MIDDLE, 1, 900), box(11, 20, 8, 9), box(19, 20, 1, 9), box(10, 20, 1, 9));
        dueBoxes(laidOut(3, 10, 9, MIDDLE, 1, 700), box(11, 20, 7, 9), box(18, 20, 2, 9), box(10, 20, 1, 9));
    }

    /** MIDDLE where w is 3: each column has 1, whatever the part. */
    static void p24MiddleWhereWIsThree() {
        for (int part : new int[] {0, 500, 1000}) {
            dueBoxes(laidOut(3, 3, 9, MIDDLE, 1, part), box(11, 20, 1, 9), box(12, 20, 1, 9), box(10, 20, 1, 9));
        }
    }

    /** MIDDLE: "Where w is below 3: as TALL." */
    static void p24MiddleWhereWIsBelowThree() {
        for (int part : new int[] {0, 500, 1000}) {
            dueBoxes(laidOut(3, 2, 9, MIDDLE, 1, part), box(10, 20, 1, 9), box(11, 20, 1, 4), box(11, 24, 1, 5));
            dueBoxes(laidOut(3, 1, 9, MIDDLE, 1, part), box(10, 20, 1, 9), box(11, 20, 0, 4), box(11, 24, 0, 5));
        }
    }

    // ---- no tile

    /** A workspace with no TILE: every layout shows none, and nothing stands there. */
    static void p25NoTile() {
        for (int kind = TALL; kind <= MIDDLE; kind++) {
            PaneDesk desk = laidOut(0, 9, 9, kind, 1, 500);
            due("at(10, 20), layout " + kind, desk.at(10, 20), NONE);
            desk.open();
            due("at(10, 20), layout " + kind, desk.at(10, 20), 0);
            desk.lift(0, 500, 500, 500, 500);
            due("at(10, 20), layout " + kind, desk.at(10, 20), NONE);
            due("at(14, 24), layout " + kind, desk.at(14, 24), 0);
        }
    }

    // ---- A FLOATING WINDOW

    /** FLOATING: numbers of 0 and 1000: at the screen's corner with all of it, and at its far end. */
    static void p24FloatingAtTheEdges() {
        PaneDesk desk = sized(1, 7, 9);
        desk.lift(0, 0, 0, 1000, 1000);
        dueBox(desk, 0, 10, 20, 7, 9);
        desk.lift(0, 1000, 1000, 0, 0);
        dueBox(desk, 0, 17, 29, 0, 0);
        desk.lift(0, 1000, 1000, 1000, 1000);
        dueBox(desk, 0, 17, 29, 7, 9);
    }

    /** FLOATING: "each cut": just below a whole number, and at it. */
    static void p24FloatingIsCut() {
        PaneDesk desk = sized(1, 8, 16);
        desk.lift(0, 124, 62, 249, 187);
        dueBox(desk, 0, 10, 20, 1, 2);
        desk.lift(0, 125, 63, 250, 188);
        dueBox(desk, 0, 11, 21, 2, 3);
    }

    /** FLOATING on a screen left of 0 and above it: what is cut is the part of its width, not the sum. */
    static void p24FloatingLeftOfZero() {
        PaneDesk desk = with(1);
        desk.rectangle(-10000, -5, 10000, 3);
        desk.rescreen();
        desk.lift(0, 999, 500, 1, 999);
        dueBox(desk, 0, -10, -4, 10, 2);
    }

    // ---- A point

    /** IN: "not left of x, not above y, left of x + w and above y + h": a screen's edges. */
    static void p25PointsOnAScreensEdges() {
        PaneDesk desk = sized(1, 7, 9);
        for (int[] in : new int[][] {{10, 20}, {16, 20}, {10, 28}, {16, 28}}) {
            due("at(" + in[0] + ", " + in[1] + ")", desk.at(in[0], in[1]), 0);
        }
        for (int[] out : new int[][] {{9, 20}, {10, 19}, {17, 20}, {10, 29}, {17, 29}, {9, 19}}) {
            due("at(" + out[0] + ", " + out[1] + ")", desk.at(out[0], out[1]), NONE);
        }
    }

    /** IN: the edge between two TILES belongs to the one on its right, or below it. */
    static void p25PointsOnTilesEdges() {
        PaneDesk desk = laidOut(3, 100, 100, TALL, 1, 300);
        due("at(39, 20)", desk.at(39, 20), 2);
        due("at(40, 20)", desk.at(40, 20), 1);
        due("at(40, 69)", desk.at(40, 69), 1);
        due("at(40, 70)", desk.at(40, 70), 0);
    }

    /** IN: a floating window's edges, with the TILE under it around. */
    static void p25PointsOnAFloatingOnesEdges() {
        PaneDesk desk = sized(2, 100, 100);
        desk.lift(0, 200, 300, 400, 500);
        for (int[] in : new int[][] {{30, 50}, {69, 50}, {30, 99}, {69, 99}}) {
            due("at(" + in[0] + ", " + in[1] + ")", desk.at(in[0], in[1]), 0);
        }
        for (int[] out : new int[][] {{29, 50}, {70, 50}, {30, 49}, {30, 100}}) {
            due("at(" + out[0] + ", " + out[1] + ")", desk.at(out[0], out[1]), 1);
        }
    }

    /** No point is IN what has no width or no height: a TILE or a floating window. */
    static void p25NothingStandsInNoRoom() {
        PaneDesk stacked = laidOut(3, 7, 2, TALL, 0, 500);
        due("at(10, 20)", stacked.at(10, 20), 1);
        due("at(10, 21)", stacked.at(10, 21), 0);
        PaneDesk floating = sized(2, 100, 100);
        floating.lift(1, 0, 0, 0, 1000);
        due("at(10, 20)", floating.at(10, 20), 0);
        floating.lift(1, 0, 0, 1000, 0);
        due("at(10, 20)", floating.at(10, 20), 0);
        floating.lift(1, 0, 0, 9, 1000);
        due("at(10, 20)", floating.at(10, 20), 0);
        floating.lift(1, 0, 0, 10, 10);
        due("at(10, 20)", floating.at(10, 20), 1);
    }

    /** At a point stands "of the FLOATING WINDOWS .. that it is IN the focus, if that is one", though others are ahead. */
    static void p25TheFocusAmongFloatingOnes() {
        PaneDesk desk = sized(3, 100, 100);
        for (int window = 0; window < 3; window++) {
            desk.lift(window, 0, 0, 1000, 1000);
            desk.focus(window);
        }
        desk.focus(0);
        due("at(10, 20)", desk.at(10, 20), 0);
        desk.focus(1);
        due("at(10, 20)", desk.at(10, 20), 1);
    }

    /** "Else the first one in ORDER": the focus floats elsewhere, or is a TILE. */
    static void p25TheFirstAmongFloatingOnes() {
        PaneDesk desk = sized(4, 100, 100);
        desk.lift(1, 0, 0, 500, 500);
        desk.lift(2, 0, 0, 500, 500);
        desk.lift(0, 500, 500, 500, 500);
        desk.focus(0);
        due("at(10, 20), the focus floats elsewhere", desk.at(10, 20), 2);
        due("at(60, 70), there", desk.at(60, 70), 0);
        desk.focus(3);
        due("at(10, 20), the focus is a TILE", desk.at(10, 20), 2);
        desk.sink(2);
        due("at(10, 20)", desk.at(10, 20), 1);
        desk.lift(3, 0, 0, 500, 500);
        desk.focus(2);
        due("at(10, 20), the first one in ORDER floats", desk.at(10, 20), 3);
    }

    /** "Without one the TILE that is shown there": floating ones are over all TILES, the focus among these too. */
    static void p25FloatingOnesAreOverTiles() {
        PaneDesk desk = sized(2, 100, 100);
        desk.lift(0, 0, 0, 500, 1000);
        desk.focus(1);
        due("at(59, 20)", desk.at(59, 20), 0);
        due("at(60, 20)", desk.at(60, 20), 1);
    }

    /** "The least screen that it is IN counts", though it is not the CURRENT one and nothing stands there. */
    static void p25TheLeastScreenCounts() {
        PaneDesk desk = new PaneDesk();
        desk.rectangle(0, 0, 10, 10);
        desk.rectangle(5, 0, 10, 10);
        desk.rectangle(0, 0, 20, 20);
        desk.rescreen();
        desk.view(2, false);
        desk.open();
        desk.view(1, false);
        desk.open();
        due("at(4, 4), screens 0 and 2", desk.at(4, 4), NONE);
        due("at(9, 9), all screens", desk.at(9, 9), NONE);
        due("at(10, 9), screens 1 and 2", desk.at(10, 9), 1);
        due("at(15, 9), screen 2", desk.at(15, 9), 0);
        due("at(19, 19), screen 2", desk.at(19, 19), 0);
        due("at(20, 19), no screen", desk.at(20, 19), NONE);
    }

    /** "At a point of a screen": a window that floats over its screen's edge stands only on its own screen. */
    static void p25FloatingOverTheScreensEdge() {
        PaneDesk desk = screens(2);
        openMore(desk, 1);
        desk.lift(0, 900, 900, 1000, 1000);
        dueBox(desk, 0, 90, 90, 100, 100);
        due("at(99, 99)", desk.at(99, 99), 0);
        due("at(100, 99), the next screen", desk.at(100, 99), NONE);
        due("at(99, 100), no screen", desk.at(99, 100), NONE);
    }

    /** Only what is on a screen stands there: windows of HIDDEN workspaces do not, whether they float or not. */
    static void p25HiddenOnesDoNotStand() {
        PaneDesk desk = sized(2, 100, 100);
        desk.lift(0, 0, 0, 1000, 1000);
        desk.view(1, false);
        due("at(10, 20)", desk.at(10, 20), NONE);
        dueNotShown(desk, 0);
        dueNotShown(desk, 1);
    }
}
