/** "Terms" 1: the edges of workspaces, rows, windows, screens and floating ones. */
public final class Terms1Test extends DeskChecks {
    public static void main(String[] args) throws Exception {
        CHECKS.runAll(Terms1Test.class);
    }

    /** "WORKSPACES are 0 .. 8." The first and the last one are viewed, what is next to them is not there. */
    static void p05WorkspacesAreZeroToEight() {
        PaneDesk desk = new PaneDesk();
        kept("view(8, false)", desk, () -> desk.view(8, false));
        due("workspace(0, 0)", desk.workspace(0, 0), 8);
        kept("view(0, false)", desk, () -> desk.view(0, false));
        due("workspace(0, 0)", desk.workspace(0, 0), 0);
        refused("view(9, false)", desk, () -> desk.view(9, false));
        refused("view(-1, false)", desk, () -> desk.view(-1, false));
    }

    /** "WORKSPACES are 0 .. 8." Windows go to the first and to the last one, and to none beyond. */
    static void p07WindowsGoToWorkspacesZeroToEight() {
        PaneDesk desk = with(2);
        kept("send(0, 8)", desk, () -> desk.send(0, 8));
        due("place(0, 0)", desk.place(0, 0), 8);
        kept("send(0, 0)", desk, () -> desk.send(0, 0));
        due("place(0, 0)", desk.place(0, 0), 0);
        refused("send(0, 9)", desk, () -> desk.send(0, 9));
        refused("send(0, -1)", desk, () -> desk.send(0, -1));
    }

    /** "Each has a LAYOUT and a ROW": each of the nine of its own. */
    static void p12EachWorkspaceHasALayoutOfItsOwn() {
        PaneDesk desk = new PaneDesk();
        for (int n = 0; n < 9; n++) {
            desk.view(n, false);
            desk.layout(n % 6);
            desk.shape(n, 100 * n);
            openMore(desk, n % 3);
        }
        for (int n = 0; n < 9; n++) {
            due("row(" + n + ", 0)", desk.row(n, 0), n % 3);
            due("row(" + n + ", 3)", desk.row(n, 3), n % 6);
            due("row(" + n + ", 4)", desk.row(n, 4), n);
            due("row(" + n + ", 5)", desk.row(n, 5), 100 * n);
        }
    }

    /** A ROW: "nothing": there is no focus, no place of it, no MASTER. */
    static void p21ARowThatIsNothing() {
        PaneDesk desk = new PaneDesk();
        dueNothing(desk, 0);
        dueNothing(desk, 8);
    }

    /** A ROW of "a focus" alone: none ABOVE and none BELOW, it is the MASTER. */
    static void p21ARowOfAFocusAlone() {
        PaneDesk desk = with(1);
        dueOrder(desk, 0, 0, 0);
        due("window(0, 1)", desk.window(0, 1), NONE);
        due("window(0, -1)", desk.window(0, -1), NONE);
    }

    /** "Its ORDER is those ABOVE from the farthest one on, the focus, those BELOW". */
    static void p22OrderIsAboveFocusBelow() {
        PaneDesk desk = with(5);
        desk.focus(2);
        dueOrder(desk, 0, 2, 4, 3, 2, 1, 0);
        due("window(0, 5)", desk.window(0, 5), NONE);
    }

    /** "The first one is the MASTER": with one master it alone has the left side, wherever the focus is. */
    static void p24TheFirstOneInOrderIsTheMaster() {
        PaneDesk desk = with(3);
        desk.focus(0);
        dueBox(desk, 2, 0, 0, 400, 600);
        desk.move(5);
        dueBox(desk, 0, 0, 0, 400, 600);
    }

    /** "WINDOWS are numbers 0 .. 59": they are given from the least one on, and the last is 59. */
    static void p02WindowsAreZeroToFiftyNine() {
        PaneDesk desk = new PaneDesk();
        for (int window = 0; window < 60; window++) {
            due("open()", desk.open(), window);
        }
        refused("open()", desk, () -> desk.open(), NONE);
        due("count(0)", desk.count(0), 60);
    }

    /** "60 at most are there": all in one row, full from its first place to its last. */
    static void p22SixtyInOneRow() {
        PaneDesk desk = with(60);
        due("row(0, 0)", desk.row(0, 0), 60);
        due("window(0, 0)", desk.window(0, 0), 59);
        due("window(0, 59)", desk.window(0, 59), 0);
        due("window(0, 60)", desk.window(0, 60), NONE);
        kept("move(0)", desk, () -> desk.move(0));
        due("row(0, 2)", desk.row(0, 2), 59);
        kept("move(6)", desk, () -> desk.move(6));
        due("window(0, 0)", desk.window(0, 0), 0);
        due("window(0, 1)", desk.window(0, 1), 59);
        due("window(0, 59)", desk.window(0, 59), 1);
    }

    /** "60 at most are there": those of all workspaces together, so an empty row takes none either. */
    static void p02SixtyOverAllWorkspaces() {
        PaneDesk desk = with(30);
        desk.view(4, false);
        openMore(desk, 29);
        desk.view(8, false);
        due("open()", desk.open(), 59);
        desk.view(7, false);
        refused("open()", desk, () -> desk.open(), NONE);
        dueNothing(desk, 7);
        desk.close(45);
        due("open()", desk.open(), 45);
        dueOrder(desk, 7, 45, 45);
        refused("open()", desk, () -> desk.open(), NONE);
    }

    /** A full row goes to another one, window by window, and is full there. */
    static void p06SixtyShiftedToAnotherRow() {
        PaneDesk desk = with(60);
        for (int i = 0; i < 60; i++) {
            due("shift(3)", desk.shift(3), true);
        }
        refused("shift(3)", desk, () -> desk.shift(3));
        dueNothing(desk, 0);
        due("row(3, 0)", desk.row(3, 0), 60);
        due("window(3, 0)", desk.window(3, 0), 0);
        due("window(3, 59)", desk.window(3, 59), 59);
        due("row(3, 1)", desk.row(3, 1), 0);
    }

    /** "WINDOWS are numbers 0 .. 59": every call takes 59 where it is there, and 60 nowhere. */
    static void p08TheLastWindowNumber() {
        PaneDesk desk = with(60);
        kept("focus(0)", desk, () -> desk.focus(0));
        kept("focus(59)", desk, () -> desk.focus(59));
        kept("lift(59, 1, 2, 3, 4)", desk, () -> desk.lift(59, 1, 2, 3, 4));
        due("place(59, 6)", desk.place(59, 6), 4);
        due("shown(59, 0)", desk.shown(59, 0), 0);
        kept("sink(59)", desk, () -> desk.sink(59));
        kept("send(59, 1)", desk, () -> desk.send(59, 1));
        kept("close(59)", desk, () -> desk.close(59));
        refused("focus(60)", desk, () -> desk.focus(60));
        refused("lift(60, 1, 2, 3, 4)", desk, () -> desk.lift(60, 1, 2, 3, 4));
        refused("sink(60)", desk, () -> desk.sink(60));
        refused("send(60, 1)", desk, () -> desk.send(60, 1));
        refused("close(60)", desk, () -> desk.close(60));
        due("place(60, 0)", desk.place(60, 0), NONE);
        due("shown(60, 0)", desk.shown(60, 0), NOWHERE);
    }

    /** "SCREENS are 1 to 4": with one there is no VISIBLE one, and eight workspaces are HIDDEN. */
    static void p18OneScreenAlone() {
        PaneDesk desk = new PaneDesk();
        dueScreens(desk, 0);
        due("workspace(1, 1)", desk.workspace(1, 1), NONE);
        due("workspace(2, 0)", desk.workspace(2, 0), NONE);
        due("workspace(3, 7)", desk.workspace(3, 7), 8);
        due("workspace(3, 8)", desk.workspace(3, 8), NONE);
        due("screen(1, 0)", desk.screen(1, 0), NOWHERE);
    }

    /** "SCREENS are 1 to 4, numbered from 0 on": with four, three are VISIBLE and five workspaces HIDDEN. */
    static void p18FourScreens() {
        PaneDesk desk = screens(4);
        dueScreens(desk, 0, 1, 2, 3);
        dueWorkspaces(desk, 0, 1, 2, 3);
        due("workspace(1, 4)", desk.workspace(1, 4), NONE);
        due("workspace(2, 2)", desk.workspace(2, 2), 3);
        due("workspace(2, 3)", desk.workspace(2, 3), NONE);
        dueHidden(desk, 4, 5, 6, 7, 8);
        due("workspace(3, 5)", desk.workspace(3, 5), NONE);
        due("screen(3, 0)", desk.screen(3, 0), 300);
        due("screen(4, 0)", desk.screen(4, 0), NOWHERE);
    }

    /** "SCREENS are 1 to 4": a fifth rectangle does not wait, so there are never five. */
    static void p15NeverFiveScreens() {
        PaneDesk desk = new PaneDesk();
        for (int k = 0; k < 5; k++) {
            desk.rectangle(k, k, 1 + k, 1 + k);
        }
        kept("rescreen()", desk, () -> desk.rescreen());
        due("count(1)", desk.count(1), 4);
        due("screen(3, 2)", desk.screen(3, 2), 4);
    }

    /** "At first there is one screen, 0, of 0, 0, 800, 600, with workspace 0; HIDDEN are 1 .. 8 in this order". */
    static void p01AtFirstOneScreen() {
        PaneDesk desk = new PaneDesk();
        dueScreens(desk, 0);
        int[] sides = {0, 0, 800, 600};
        for (int what = 0; what < 4; what++) {
            due("screen(0, " + what + ")", desk.screen(0, what), sides[what]);
        }
        due("workspace(0, 0)", desk.workspace(0, 0), 0);
        dueHidden(desk, 1, 2, 3, 4, 5, 6, 7, 8);
    }

    /** "All ROWS are nothing, all LAYOUTS TALL with 1 master and a part of 500." */
    static void p01AtFirstAllRowsAreNothing() {
        PaneDesk desk = new PaneDesk();
        for (int n = 0; n < 9; n++) {
            dueNothing(desk, n);
            due("row(" + n + ", 3)", desk.row(n, 3), TALL);
            due("row(" + n + ", 4)", desk.row(n, 4), 1);
            due("row(" + n + ", 5)", desk.row(n, 5), 500);
            due("row(" + n + ", 6)", desk.row(n, 6), 0);
        }
    }

    /** "No WINDOW; no rectangles wait; nothing is kept." */
    static void p01AtFirstNothingIsKept() {
        PaneDesk desk = new PaneDesk();
        int[] counts = {0, 1, 8, 0, 0, 0, 0};
        for (int what = 0; what < 7; what++) {
            due("count(" + what + ")", desk.count(what), counts[what]);
        }
        due("undo()", desk.undo(), NONE);
        due("redo()", desk.redo(), NONE);
        due("rescreen()", desk.rescreen(), false);
        due("at(0, 0)", desk.at(0, 0), NONE);
    }

    /** What one object does is not seen in another one. */
    static void p01NewObjectsStandAlone() {
        PaneDesk busy = busy();
        PaneDesk other = new PaneDesk();
        due("sum()", other.sum() == busy.sum(), false);
        due("count(0)", other.count(0), 0);
        due("count(4)", other.count(4), 0);
        due("count(6)", other.count(6), 0);
    }

    /** "FLOATING are some WINDOWS": none of them, or all of them; "the others are TILES". */
    static void p20NoneOrAllFloat() {
        PaneDesk desk = with(3);
        due("count(3)", desk.count(3), 0);
        due("row(0, 6)", desk.row(0, 6), 3);
        for (int window = 0; window < 3; window++) {
            desk.lift(window, 0, 0, 1000, 1000);
            due("count(3)", desk.count(3), window + 1);
            due("row(0, 6)", desk.row(0, 6), 2 - window);
        }
        due("row(0, 0)", desk.row(0, 0), 3);
    }

    /** All sixty float, and none is a TILE. */
    static void p20SixtyFloat() {
        PaneDesk desk = with(60);
        for (int window = 0; window < 60; window++) {
            desk.lift(window, window, 0, 1000, 1000);
        }
        due("count(3)", desk.count(3), 60);
        due("row(0, 6)", desk.row(0, 6), 0);
        due("place(59, 3)", desk.place(59, 3), 59);
        due("place(0, 3)", desk.place(0, 3), 0);
    }

    /** "Thousandths of its screen's width and height": of the screen that the window is on now. */
    static void p24NumbersAreOfTheScreenItIsOn() {
        PaneDesk desk = with(1);
        desk.lift(0, 250, 500, 500, 250);
        dueBox(desk, 0, 200, 300, 400, 150);
        desk.rectangle(0, 0, 100, 100);
        desk.rectangle(-40, -80, 40, 80);
        desk.rescreen();
        dueBox(desk, 0, 25, 50, 50, 25);
        desk.shift(1);
        dueBox(desk, 0, -30, -40, 20, 20);
    }
}
