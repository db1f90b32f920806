import java.util.function.IntPredicate;

/** Promises 1 to 26: what each of them refuses and answers then, and the edges of what it takes. */
public final class EdgesTest extends DeskChecks {
    private static final int[] NO_WORKSPACE = {-1, 9, LOW, HIGH};
    /** None of these is there in busy(), which has 0, 1 and 2. */
    private static final int[] NO_WINDOW = {-1, 3, 59, 60, LOW, HIGH};
    private static final int[] NO_SHARE = {-1, 1001, LOW, HIGH};

    public static void main(String[] args) throws Exception {
        CHECKS.runAll(EdgesTest.class);
    }

    /** A call that is refused with each of some arguments, on a desk where it has something to spoil. */
    private static void refusedWith(String call, PaneDesk desk, int[] wrong, IntPredicate asked) {
        for (int argument : wrong) {
            refused(call + " with " + argument, desk, () -> asked.test(argument));
        }
    }

    // ---- events

    /** open: "the least number that is not there": a gap at 0, in the middle, and next to the last one. */
    static void p02TheLeastNumber() {
        PaneDesk desk = with(5);
        desk.close(3);
        desk.close(0);
        due("open()", desk.open(), 0);
        due("open()", desk.open(), 3);
        due("open()", desk.open(), 5);
        desk.close(5);
        due("open()", desk.open(), 5);
    }

    /** open: "in the CURRENT workspace's ROW", a TILE, though a window of its number floated. */
    static void p02InTheCurrentWorkspace() {
        PaneDesk desk = screens(2);
        desk.open();
        desk.lift(0, 1, 2, 3, 4);
        desk.close(0);
        desk.view(1, false);
        due("open()", desk.open(), 0);
        dueNothing(desk, 0);
        dueOrder(desk, 1, 0, 0);
        due("place(0, 2)", desk.place(0, 2), 0);
        due("place(0, 3)", desk.place(0, 3), 0);
    }

    /** open: "NONE if 60 are there." */
    static void p02NoneIfSixtyAreThere() {
        PaneDesk desk = with(60);
        refused("open()", desk, () -> desk.open(), NONE);
        desk.close(17);
        due("open()", desk.open(), 17);
        refused("open()", desk, () -> desk.open(), NONE);
    }

    /** close: "and FLOATS no more". */
    static void p03FloatsNoMore() {
        PaneDesk desk = with(2);
        desk.lift(0, 1, 2, 3, 4);
        desk.lift(1, 1, 2, 3, 4);
        kept("close(1)", desk, () -> desk.close(1));
        due("count(3)", desk.count(3), 1);
        due("place(0, 2)", desk.place(0, 2), 1);
        due("place(1, 2)", desk.place(1, 2), NONE);
    }

    /** close: "False: there is none such." */
    static void p03NoneSuch() {
        PaneDesk desk = busy();
        refusedWith("close", desk, NO_WINDOW, desk::close);
        PaneDesk closed = with(1);
        closed.close(0);
        refused("close(0) again", closed, () -> closed.close(0));
    }

    /** move: "false for another what". */
    static void p04AnotherWhat() {
        PaneDesk desk = with(3);
        desk.focus(1);
        desk.layout(GRID);
        desk.undo();
        refusedWith("move", desk, new int[] {-1, 7, 8, LOW, HIGH}, desk::move);
    }

    /** view: "False, too, if there is none such." */
    static void p05NoneSuch() {
        PaneDesk desk = busy();
        refusedWith("view", desk, NO_WORKSPACE, n -> desk.view(n, false));
        refusedWith("view greedily", desk, NO_WORKSPACE, n -> desk.view(n, true));
    }

    /** shift: "False, too, if there is no focus": though other workspaces have windows. */
    static void p06NoFocus() {
        PaneDesk desk = busy();
        desk.view(8, false);
        for (int n = -1; n < 10; n++) {
            int workspace = n;
            refused("shift(" + n + ")", desk, () -> desk.shift(workspace));
        }
    }

    /** shift: "or no such workspace". */
    static void p06NoSuchWorkspace() {
        PaneDesk desk = busy();
        refusedWith("shift", desk, NO_WORKSPACE, desk::shift);
        dueOrder(desk, 0, 1, 1, 0);
    }

    /** send: "False, too, if there is none such of either": a window, a workspace, or both. */
    static void p07NoneSuchOfEither() {
        PaneDesk desk = busy();
        refusedWith("send to 4", desk, NO_WINDOW, window -> desk.send(window, 4));
        refusedWith("send 0", desk, NO_WORKSPACE, n -> desk.send(0, n));
        refusedWith("send 3", desk, NO_WORKSPACE, n -> desk.send(3, n));
    }

    /** focus: "False, too, if there is none such." */
    static void p08NoneSuch() {
        PaneDesk desk = busy();
        refusedWith("focus", desk, NO_WINDOW, desk::focus);
    }

    /** click on the focus of the CURRENT workspace: told as focus() tells it. */
    static void p09ClickTheFocus() {
        PaneDesk desk = with(2);
        refused("click(0, 0)", desk, () -> desk.click(0, 0));
        kept("click(799, 599)", desk, () -> desk.click(799, 599));
        dueOrder(desk, 0, 0, 1, 0);
        refused("click(400, 0)", desk, () -> desk.click(400, 0));
    }

    /** click on a VISIBLE screen's window: its workspace is VIEWED, and it is the focus there. */
    static void p09ClickOnAVisibleScreen() {
        PaneDesk desk = screens(3);
        openMore(desk, 2);
        desk.view(2, false);
        kept("click(0, 0), the focus there", desk, () -> desk.click(0, 0));
        dueScreens(desk, 0, 2, 1);
        desk.view(2, false);
        kept("click(50, 0), not the focus there", desk, () -> desk.click(50, 0));
        dueScreens(desk, 0, 2, 1);
        dueOrder(desk, 0, 0, 1, 0);
    }

    /** click: "without one, if a screen is there, that screen's workspace is VIEWED". */
    static void p09ClickWhereNoWindowIs() {
        PaneDesk desk = screens(3);
        kept("click(299, 99)", desk, () -> desk.click(299, 99));
        dueScreens(desk, 2, 0, 1);
        kept("click(100, 0)", desk, () -> desk.click(100, 0));
        dueScreens(desk, 1, 2, 0);
        dueWorkspaces(desk, 0, 1, 2);
        refused("click(199, 99), the CURRENT one", desk, () -> desk.click(199, 99));
    }

    /** click where no screen is: nothing changes. */
    static void p09ClickWhereNoScreenIs() {
        PaneDesk desk = busy();
        for (int[] point : new int[][] {{-1, 0}, {0, -1}, {200, 0}, {0, 100}, {LOW, LOW}, {HIGH, HIGH}, {LOW, 0}, {0, HIGH}}) {
            refused("click(" + point[0] + ", " + point[1] + ")", desk, () -> desk.click(point[0], point[1]));
        }
    }

    /** click where a window floats over a TILE: the floating one is FOCUSED. */
    static void p09ClickAFloatingOne() {
        PaneDesk desk = with(2);
        desk.lift(0, 0, 0, 500, 500);
        kept("click(399, 299)", desk, () -> desk.click(399, 299));
        dueOrder(desk, 0, 0, 1, 0);
        kept("click(399, 300)", desk, () -> desk.click(399, 300));
        dueOrder(desk, 0, 1, 1, 0);
    }

    /** click where screens overlap: the least one counts, and with nothing there its workspace is VIEWED. */
    static void p09ClickWhereScreensOverlap() {
        PaneDesk desk = new PaneDesk();
        desk.rectangle(0, 0, 10, 10);
        desk.rectangle(5, 0, 10, 10);
        desk.rescreen();
        desk.view(1, false);
        desk.open();
        kept("click(9, 9)", desk, () -> desk.click(9, 9));
        due("workspace(0, 0)", desk.workspace(0, 0), 0);
        kept("click(10, 9)", desk, () -> desk.click(10, 9));
        due("workspace(0, 0)", desk.workspace(0, 0), 1);
    }

    /** lift: numbers are 0 .. 1000, both ends of each. */
    static void p10NumbersAtTheirEnds() {
        PaneDesk desk = with(1);
        kept("lift(0, 0, 0, 0, 0)", desk, () -> desk.lift(0, 0, 0, 0, 0));
        due("place(0, 2)", desk.place(0, 2), 1);
        kept("lift, a", desk, () -> desk.lift(0, 1000, 0, 0, 0));
        kept("lift, b", desk, () -> desk.lift(0, 1000, 1000, 0, 0));
        kept("lift, c", desk, () -> desk.lift(0, 1000, 1000, 1000, 0));
        kept("lift, d", desk, () -> desk.lift(0, 1000, 1000, 1000, 1000));
        for (int what = 3; what <= 6; what++) {
            due("place(0, " + what + ")", desk.place(0, what), 1000);
        }
        refused("lift with the same numbers", desk, () -> desk.lift(0, 1000, 1000, 1000, 1000));
    }

    /** lift of one that floats: each of its numbers alone is a change, of the first window and of the last. */
    static void p10OneNumberIsAChange() {
        PaneDesk desk = with(60);
        for (int window : new int[] {0, 59}) {
            desk.lift(window, 5, 5, 5, 5);
            kept("lift, a", desk, () -> desk.lift(window, 6, 5, 5, 5));
            kept("lift, b", desk, () -> desk.lift(window, 6, 6, 5, 5));
            kept("lift, c", desk, () -> desk.lift(window, 6, 6, 6, 5));
            kept("lift, d", desk, () -> desk.lift(window, 6, 6, 6, 6));
            refused("lift, none", desk, () -> desk.lift(window, 6, 6, 6, 6));
        }
    }

    /** lift: "False, too: .. a number is not 0 .. 1000": each of the four. */
    static void p10ANumberBeyondItsEnds() {
        PaneDesk desk = busy();
        refusedWith("lift, a", desk, NO_SHARE, n -> desk.lift(0, n, 1, 1, 1));
        refusedWith("lift, b", desk, NO_SHARE, n -> desk.lift(0, 1, n, 1, 1));
        refusedWith("lift, c", desk, NO_SHARE, n -> desk.lift(1, 1, 1, n, 1));
        refusedWith("lift, d", desk, NO_SHARE, n -> desk.lift(1, 1, 1, 1, n));
        due("place(0, 2)", desk.place(0, 2), 0);
        due("place(1, 3)", desk.place(1, 3), 100);
    }

    /** lift: "False, too: there is none such". */
    static void p10NoneSuch() {
        PaneDesk desk = busy();
        refusedWith("lift", desk, NO_WINDOW, window -> desk.lift(window, 1, 1, 1, 1));
        due("open()", desk.open(), 3);
        due("place(3, 2)", desk.place(3, 2), 0);
    }

    /** lift of a window that is not shown: it FLOATS in its HIDDEN workspace. */
    static void p10LiftAHiddenOne() {
        PaneDesk desk = busy();
        kept("lift(2, 9, 8, 7, 6)", desk, () -> desk.lift(2, 9, 8, 7, 6));
        due("row(5, 6)", desk.row(5, 6), 0);
        dueNotShown(desk, 2);
    }

    /** sink: "False, too, if it did not": never, or no more. */
    static void p11ItDidNotFloat() {
        PaneDesk desk = busy();
        refused("sink(0)", desk, () -> desk.sink(0));
        kept("sink(1)", desk, () -> desk.sink(1));
        refused("sink(1) again", desk, () -> desk.sink(1));
        for (int what = 2; what <= 6; what++) {
            due("place(1, " + what + ")", desk.place(1, what), 0);
        }
    }

    /** sink of one that floats with four times 0: it did float, so something changes. */
    static void p11SinkWithNumbersOfZero() {
        PaneDesk desk = with(1);
        desk.lift(0, 0, 0, 0, 0);
        kept("sink(0)", desk, () -> desk.sink(0));
        due("count(3)", desk.count(3), 0);
    }

    /** sink: "or there is none such". */
    static void p11NoneSuch() {
        PaneDesk desk = busy();
        refusedWith("sink", desk, NO_WINDOW, desk::sink);
        desk.close(1);
        refused("sink(1), closed", desk, () -> desk.sink(1));
    }

    /** layout: 0 .. 5, both ends; "masters and part stay". */
    static void p12LayoutsAtTheirEnds() {
        PaneDesk desk = new PaneDesk();
        desk.shape(7, 70);
        kept("layout(5)", desk, () -> desk.layout(5));
        due("row(0, 3)", desk.row(0, 3), 5);
        kept("layout(0)", desk, () -> desk.layout(0));
        due("row(0, 3)", desk.row(0, 3), 0);
        due("row(0, 4)", desk.row(0, 4), 7);
        due("row(0, 5)", desk.row(0, 5), 70);
        refused("layout(0), the one that it has", desk, () -> desk.layout(0));
    }

    /** layout: "False, too, for another one." */
    static void p12AnotherLayout() {
        PaneDesk desk = busy();
        refusedWith("layout", desk, new int[] {-1, 6, LOW, HIGH}, desk::layout);
    }

    /** layout and shape are of the CURRENT workspace, though it is not on screen 0, and has no window. */
    static void p12OfTheCurrentWorkspace() {
        PaneDesk desk = screens(2);
        desk.view(1, false);
        kept("layout(2)", desk, () -> desk.layout(FULL));
        kept("shape(3, 30)", desk, () -> desk.shape(3, 30));
        due("row(1, 3)", desk.row(1, 3), FULL);
        due("row(1, 4)", desk.row(1, 4), 3);
        due("row(0, 3)", desk.row(0, 3), TALL);
        due("row(0, 4)", desk.row(0, 4), 1);
    }

    /** shape: masters 0 .. 60 and a part 0 .. 1000, both ends; either one alone is a change. */
    static void p13ShapesAtTheirEnds() {
        PaneDesk desk = new PaneDesk();
        kept("shape(0, 500)", desk, () -> desk.shape(0, 500));
        kept("shape(0, 0)", desk, () -> desk.shape(0, 0));
        kept("shape(60, 0)", desk, () -> desk.shape(60, 0));
        kept("shape(60, 1000)", desk, () -> desk.shape(60, 1000));
        due("row(0, 4)", desk.row(0, 4), 60);
        due("row(0, 5)", desk.row(0, 5), 1000);
        refused("shape(60, 1000), as it was", desk, () -> desk.shape(60, 1000));
    }

    /** shape: "False, too, if one is not so": then the other one does not change either. */
    static void p13OneIsNotSo() {
        PaneDesk desk = busy();
        refusedWith("shape, masters", desk, new int[] {-1, 61, LOW, HIGH}, m -> desk.shape(m, 7));
        refusedWith("shape, part", desk, NO_SHARE, p -> desk.shape(7, p));
        refusedWith("shape, both", desk, NO_SHARE, n -> desk.shape(n, n));
    }

    /** rectangle: x and y are -10000 .. 10000, width and height 1 .. 10000, both ends of each. */
    static void p14RectanglesAtTheirEnds() {
        PaneDesk desk = new PaneDesk();
        due("the least", desk.rectangle(-10000, -10000, 1, 1), 1);
        due("the greatest", desk.rectangle(10000, 10000, 10000, 10000), 2);
        due("rescreen()", desk.rescreen(), true);
        int[][] sides = {{-10000, -10000, 1, 1}, {10000, 10000, 10000, 10000}};
        for (int k = 0; k < 2; k++) {
            for (int what = 0; what < 4; what++) {
                due("screen(" + k + ", " + what + ")", desk.screen(k, what), sides[k][what]);
            }
        }
        desk.view(1, false);
        desk.open();
        dueBox(desk, 0, 10000, 10000, 10000, 10000);
        due("at(19999, 19999)", desk.at(19999, 19999), 0);
        due("at(20000, 19999)", desk.at(20000, 19999), NONE);
    }

    /** rectangle: "NONE, and it does not wait: .. x or y is not -10000 .. 10000, width or height not 1 .. 10000". */
    static void p14RectanglesBeyondTheirEnds() {
        PaneDesk desk = busy();
        for (int n : new int[] {-10001, 10001, LOW, HIGH}) {
            refused("rectangle, x " + n, desk, () -> desk.rectangle(n, 0, 5, 5), NONE);
            refused("rectangle, y " + n, desk, () -> desk.rectangle(0, n, 5, 5), NONE);
        }
        for (int n : new int[] {0, -1, 10001, LOW, HIGH}) {
            refused("rectangle, width " + n, desk, () -> desk.rectangle(0, 0, n, 5), NONE);
            refused("rectangle, height " + n, desk, () -> desk.rectangle(0, 0, 5, n), NONE);
        }
        due("the next one", desk.rectangle(0, 0, 5, 5), 2);
    }

    /** rectangle: "how many do": 1, 2, 3, 4; "NONE, and it does not wait: four do". */
    static void p14FourWait() {
        PaneDesk desk = with(1);
        desk.undo();
        for (int k = 1; k <= 4; k++) {
            due("rectangle", desk.rectangle(k, k, k, k), k);
            due("count(6)", desk.count(6), k);
        }
        refused("a fifth one", desk, () -> desk.rectangle(5, 5, 5, 5), NONE);
        due("rescreen()", desk.rescreen(), true);
        due("screen(3, 0)", desk.screen(3, 0), 4);
        due("count(6)", desk.count(6), 0);
        due("rectangle", desk.rectangle(5, 5, 5, 5), 1);
    }

    /** rescreen: "False, too, if none waits": at first, and right behind another one. */
    static void p15NoneWaits() {
        PaneDesk desk = with(1);
        desk.undo();
        refused("rescreen()", desk, () -> desk.rescreen());
        desk.rectangle(0, 0, 0, 0);
        refused("rescreen() behind a rectangle that does not wait", desk, () -> desk.rescreen());
        desk.rectangle(0, 0, 1, 1);
        due("rescreen()", desk.rescreen(), true);
        refused("rescreen() again", desk, () -> desk.rescreen());
    }

    /** rescreen: "by the rectangles that wait, in order". */
    static void p15InOrder() {
        PaneDesk desk = new PaneDesk();
        desk.rectangle(5, 6, 7, 8);
        desk.rectangle(-5, -6, 1, 2);
        kept("rescreen()", desk, () -> desk.rescreen());
        due("screen(0, 0)", desk.screen(0, 0), 5);
        due("screen(1, 0)", desk.screen(1, 0), -5);
        due("screen(1, 3)", desk.screen(1, 3), 2);
    }

    /** rescreen: one side of one rectangle that is another one is a change. */
    static void p15OneSideIsAChange() {
        PaneDesk desk = sized(1, 30, 40);
        int[][] boxes = {{11, 20, 30, 40}, {11, 21, 30, 40}, {11, 21, 31, 40}, {11, 21, 31, 41}};
        for (int[] b : boxes) {
            desk.rectangle(b[0], b[1], b[2], b[3]);
            kept("rescreen()", desk, () -> desk.rescreen());
        }
    }

    /** undo: "NONE if none is." */
    static void p16NoneIsKept() {
        PaneDesk desk = new PaneDesk();
        refused("undo()", desk, () -> desk.undo(), NONE);
        desk.open();
        due("undo()", desk.undo(), 0);
        refused("undo()", desk, () -> desk.undo(), NONE);
        due("redo()", desk.redo(), 1);
    }

    /** redo: "NONE if there is none": at first, behind an event, and behind as many redo() as undo(). */
    static void p17NoneIsUndone() {
        PaneDesk desk = new PaneDesk();
        refused("redo()", desk, () -> desk.redo(), NONE);
        desk.open();
        refused("redo()", desk, () -> desk.redo(), NONE);
        desk.undo();
        due("redo()", desk.redo(), 1);
        refused("redo()", desk, () -> desk.redo(), NONE);
    }

    // ---- what is told

    /** workspace, what 0: k does not count. */
    static void p18CurrentWhateverKIs() {
        PaneDesk desk = screens(3);
        desk.view(2, false);
        desk.view(7, false);
        for (int k : new int[] {0, 1, 2, 9, -1, LOW, HIGH}) {
            due("workspace(0, " + k + ")", desk.workspace(0, k), 7);
        }
    }

    /** workspace: "NONE .. if there is none such": the places next to the ends of each row. */
    static void p18NoneSuch() {
        PaneDesk desk = screens(3);
        desk.view(1, false);
        int[][] last = {{1, 2, 2}, {2, 1, 2}, {3, 5, 8}};
        int[] first = {0, 0, 3};
        for (int i = 0; i < 3; i++) {
            int what = last[i][0];
            due("workspace(" + what + ", 0)", desk.workspace(what, 0), first[i]);
            due("workspace(" + what + ", last)", desk.workspace(what, last[i][1]), last[i][2]);
            for (int k : new int[] {-1, last[i][1] + 1, LOW, HIGH}) {
                due("workspace(" + what + ", " + k + ")", desk.workspace(what, k), NONE);
            }
        }
    }

    /** workspace: "NONE for another what". */
    static void p18AnotherWhat() {
        PaneDesk desk = screens(3);
        for (int what : new int[] {-1, 4, LOW, HIGH}) {
            due("workspace(" + what + ", 0)", desk.workspace(what, 0), NONE);
        }
    }

    /** screen, what 4: "0 if it is CURRENT, else 1 and its place among VISIBLE ones". */
    static void p19PlaceOfAScreen() {
        PaneDesk desk = screens(4);
        desk.view(2, false);
        int[] places = {1, 2, 0, 3};
        for (int k = 0; k < 4; k++) {
            due("screen(" + k + ", 4)", desk.screen(k, 4), places[k]);
        }
    }

    /** screen: "-20000 if there is none such". */
    static void p19NoneSuch() {
        for (int many = 1; many <= 4; many++) {
            PaneDesk desk = screens(many);
            for (int what = 0; what <= 4; what++) {
                due("screen(last, " + what + ") is there", desk.screen(many - 1, what) != NOWHERE, true);
                for (int k : new int[] {-1, many, LOW, HIGH}) {
                    due("screen(" + k + ", " + what + ")", desk.screen(k, what), NOWHERE);
                }
            }
        }
    }

    /** screen: "or for another what". */
    static void p19AnotherWhat() {
        PaneDesk desk = screens(2);
        for (int what : new int[] {-1, 5, LOW, HIGH}) {
            due("screen(0, " + what + ")", desk.screen(0, what), NOWHERE);
            due("screen(1, " + what + ")", desk.screen(1, what), NOWHERE);
            due("screen(2, " + what + ")", desk.screen(2, what), NOWHERE);
        }
    }

    /** count: "NONE for another what." */
    static void p20AnotherWhat() {
        PaneDesk desk = busy();
        int[] counts = {3, 2, 7, 1, 9, 1, 1};
        for (int what = 0; what <= 6; what++) {
            due("count(" + what + ")", desk.count(what), counts[what]);
        }
        for (int what : new int[] {-1, 7, LOW, HIGH}) {
            due("count(" + what + ")", desk.count(what), NONE);
        }
    }

    /** row: "NONE for another what, or if there is none such." */
    static void p21AnotherWhatAndNoneSuch() {
        PaneDesk desk = busy();
        for (int what : new int[] {-1, 8, LOW, HIGH}) {
            due("row(0, " + what + ")", desk.row(0, what), NONE);
            due("row(9, " + what + ")", desk.row(9, what), NONE);
        }
        for (int n : NO_WORKSPACE) {
            for (int what = 0; what <= 7; what++) {
                due("row(" + n + ", " + what + ")", desk.row(n, what), NONE);
            }
        }
    }

    /** row, what 7: "the screen that it is on (NONE)" for CURRENT, VISIBLE and HIDDEN ones. */
    static void p21TheScreenThatItIsOn() {
        PaneDesk desk = screens(4);
        desk.view(3, false);
        desk.view(8, false);
        int[] on = {0, 1, 2, NONE, NONE, NONE, NONE, NONE, 3};
        for (int n = 0; n < 9; n++) {
            due("row(" + n + ", 7)", desk.row(n, 7), on[n]);
        }
    }

    /** window: "NONE if there is none such": no such place, an empty row, no such workspace. */
    static void p22NoneSuch() {
        PaneDesk desk = with(3);
        due("window(0, 2)", desk.window(0, 2), 0);
        for (int k : new int[] {-1, 3, 59, 60, LOW, HIGH}) {
            due("window(0, " + k + ")", desk.window(0, k), NONE);
        }
        due("window(8, 0)", desk.window(8, 0), NONE);
        for (int n : NO_WORKSPACE) {
            due("window(" + n + ", 0)", desk.window(n, 0), NONE);
        }
    }

    /** window: a place that a closed one has left is there no more. */
    static void p22BehindClose() {
        PaneDesk desk = with(3);
        desk.close(0);
        due("window(0, 1)", desk.window(0, 1), 1);
        due("window(0, 2)", desk.window(0, 2), NONE);
    }

    /** place, what 3 .. 6: "its four numbers (0 of TILES)". */
    static void p23NumbersOfTiles() {
        PaneDesk desk = busy();
        int[] tile = {0, 1, 0, 0, 0, 0, 0};
        int[] floating = {0, 0, 1, 100, 200, 300, 400};
        int[] hidden = {5, 0, 0, 0, 0, 0, 0};
        for (int what = 0; what <= 6; what++) {
            due("place(0, " + what + ")", desk.place(0, what), tile[what]);
            due("place(1, " + what + ")", desk.place(1, what), floating[what]);
            due("place(2, " + what + ")", desk.place(2, what), hidden[what]);
        }
    }

    /** place: "NONE for another what, or if there is none such." */
    static void p23AnotherWhatAndNoneSuch() {
        PaneDesk desk = busy();
        for (int what : new int[] {-1, 7, LOW, HIGH}) {
            due("place(1, " + what + ")", desk.place(1, what), NONE);
        }
        for (int window : NO_WINDOW) {
            for (int what = 0; what <= 6; what++) {
                due("place(" + window + ", " + what + ")", desk.place(window, what), NONE);
            }
        }
    }

    /** shown: "-20000 if .. its workspace is HIDDEN"; on a VISIBLE screen it is shown. */
    static void p24HiddenAndVisible() {
        PaneDesk desk = busy();
        dueNotShown(desk, 2);
        desk.view(3, false);
        dueBox(desk, 1, 10, 20, 30, 40);
        dueBox(desk, 0, 0, 0, 100, 100);
    }

    /** shown: "-20000 if .. there is none such, or for another what". */
    static void p24AnotherWhatAndNoneSuch() {
        PaneDesk desk = busy();
        for (int window : NO_WINDOW) {
            dueNotShown(desk, window);
        }
        for (int what : new int[] {-1, 4, LOW, HIGH}) {
            due("shown(0, " + what + ")", desk.shown(0, what), NOWHERE);
            due("shown(1, " + what + ")", desk.shown(1, what), NOWHERE);
        }
    }

    /** at: "NONE if there is none": no window there, no screen there, as far off as can be. */
    static void p25NoneThere() {
        PaneDesk desk = busy();
        due("at(0, 0)", desk.at(0, 0), 0);
        due("at(10, 20)", desk.at(10, 20), 1);
        due("at(100, 0), a screen without windows", desk.at(100, 0), NONE);
        for (int[] point : new int[][] {{-1, 0}, {0, -1}, {200, 0}, {0, 100}, {LOW, LOW}, {HIGH, HIGH}, {LOW, HIGH}}) {
            due("at(" + point[0] + ", " + point[1] + ")", desk.at(point[0], point[1]), NONE);
        }
    }

    /** at: a point on none of four screens, and one where a screen is no more. */
    static void p25NoScreenThere() {
        PaneDesk desk = screens(4);
        desk.view(3, false);
        desk.open();
        due("at(399, 99)", desk.at(399, 99), 0);
        due("at(400, 99)", desk.at(400, 99), NONE);
        desk.rectangle(0, 0, 100, 100);
        desk.rescreen();
        due("at(99, 99)", desk.at(99, 99), 0);
        due("at(100, 99)", desk.at(100, 99), NONE);
        refused("click(399, 99)", desk, () -> desk.click(399, 99));
    }

    // ---- sum

    /** So many workspaces that are as at first. */
    private static long emptyOnes(long start, int many) {
        long sum = start;
        for (int i = 0; i < many; i++) {
            sum = summed(sum, 0, 1, 500, -1);
        }
        return sum;
    }

    /** sum of a new object: one screen, no VISIBLE one, focuses' places of NONE, no FLOATING one. */
    static void p26SumOfANewObject() {
        due("sum()", new PaneDesk().sum(), emptyOnes(summed(7, 0, 0, 800, 600, 0, 0, 1, 2, 3, 4, 5, 6, 7, 8), 9));
    }

    /** sum of four screens: "by number", then the CURRENT one, then "the VISIBLE ones' numbers" in their row. */
    static void p26SumOfFourScreens() {
        PaneDesk desk = new PaneDesk();
        desk.rectangle(-10000, 10000, 1, 10000);
        desk.rectangle(1, 2, 3, 4);
        desk.rectangle(5, 6, 7, 8);
        desk.rectangle(9, 10, 11, 12);
        desk.rescreen();
        desk.view(2, false);
        desk.view(1, true);
        long due = summed(7, -10000, 10000, 1, 10000, 0, 1, 2, 3, 4, 2, 5, 6, 7, 8, 1, 9, 10, 11, 12, 3);
        due("sum()", desk.sum(), emptyOnes(summed(due, 2, 1, 0, 3, 4, 5, 6, 7, 8), 9));
    }

    /** sum of windows: in the last workspace, the focus last; "each FLOATING WINDOW by number", not in ORDER. */
    static void p26SumOfWindows() {
        PaneDesk desk = new PaneDesk();
        desk.view(8, false);
        openMore(desk, 3);
        desk.focus(0);
        desk.layout(MIDDLE);
        desk.shape(60, 1000);
        desk.lift(2, 0, 1, 2, 3);
        desk.lift(0, 1000, 4, 5, 6);
        long due = emptyOnes(summed(7, 0, 0, 800, 600, 8, 0, 0, 1, 2, 3, 4, 5, 6, 7), 8);
        due = summed(due, 5, 60, 1000, 2, 2, 1, 0);
        due("sum()", desk.sum(), summed(due, 0, 1000, 4, 5, 6, 2, 0, 1, 2, 3));
    }

    /** sum: rectangles that wait and events that are kept or undone do not count in it. */
    static void p26WhatIsNotInTheSum() {
        PaneDesk desk = with(1);
        desk.move(0);
        desk.open();
        desk.undo();
        desk.rectangle(1, 2, 3, 4);
        due("sum()", desk.sum(), with(1).sum());
    }
}
