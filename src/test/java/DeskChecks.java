import java.util.function.BooleanSupplier;
import java.util.function.IntSupplier;

/** The desks that tests begin with, and what is asked of them again and again. */
class DeskChecks {
    static final int LOW = Integer.MIN_VALUE;
    static final int HIGH = Integer.MAX_VALUE;
    static final int NONE = -1;
    static final int NOWHERE = -20000;
    static final int TALL = 0;
    static final int WIDE = 1;
    static final int FULL = 2;
    static final int GRID = 3;
    static final int BALANCED = 4;
    static final int MIDDLE = 5;
    static final Checks CHECKS = new Checks();

    static void due(String call, long got, long want) {
        CHECKS.due(call, got, want);
    }

    static void due(String call, boolean got, boolean want) {
        CHECKS.due(call, got, want);
    }

    // ---- desks

    /** A desk with so many windows in workspace 0: their order is from the highest one down, the first is the focus. */
    static PaneDesk with(int windows) {
        PaneDesk desk = new PaneDesk();
        openMore(desk, windows);
        return desk;
    }

    static void openMore(PaneDesk desk, int windows) {
        for (int i = 0; i < windows; i++) {
            desk.open();
        }
    }

    /** A desk with windows on one screen of a given size at 10, 20. */
    static PaneDesk sized(int windows, int width, int height) {
        PaneDesk desk = with(windows);
        desk.rectangle(10, 20, width, height);
        desk.rescreen();
        return desk;
    }

    /** The same with a layout, masters and a part. */
    static PaneDesk laidOut(int windows, int width, int height, int kind, int masters, int part) {
        PaneDesk desk = sized(windows, width, height);
        desk.layout(kind);
        desk.shape(masters, part);
        return desk;
    }

    /** So many screens of 100 by 100 side by side, screen k with workspace k; the others are hidden. */
    static PaneDesk screens(int many) {
        PaneDesk desk = new PaneDesk();
        for (int k = 0; k < many; k++) {
            desk.rectangle(100 * k, 0, 100, 100);
        }
        desk.rescreen();
        return desk;
    }

    /** A desk where a call that is refused has something to spoil: windows, one afloat, what is kept, undone and waits. */
    static PaneDesk busy() {
        PaneDesk desk = screens(2);
        openMore(desk, 3);
        desk.lift(1, 100, 200, 300, 400);
        desk.shift(5);
        desk.view(1, false);
        desk.view(3, false);
        desk.view(0, false);
        desk.shape(2, 300);
        desk.undo();
        desk.rectangle(1, 2, 3, 4);
        return desk;
    }

    // ---- what is asked

    static void dueOrder(PaneDesk desk, int workspace, int focus, int... windows) {
        due("row(" + workspace + ", 0)", desk.row(workspace, 0), windows.length);
        due("row(" + workspace + ", 1)", desk.row(workspace, 1), focus);
        for (int k = 0; k < windows.length; k++) {
            due("window(" + workspace + ", " + k + ")", desk.window(workspace, k), windows[k]);
            if (windows[k] == focus) {
                due("row(" + workspace + ", 2)", desk.row(workspace, 2), k);
            }
        }
    }

    /** A row that is nothing. */
    static void dueNothing(PaneDesk desk, int workspace) {
        dueOrder(desk, workspace, NONE);
        due("row(" + workspace + ", 2)", desk.row(workspace, 2), NONE);
        due("window(" + workspace + ", 0)", desk.window(workspace, 0), NONE);
    }

    static void dueHidden(PaneDesk desk, int... workspaces) {
        due("count(2)", desk.count(2), workspaces.length);
        for (int k = 0; k < workspaces.length; k++) {
            due("workspace(3, " + k + ")", desk.workspace(3, k), workspaces[k]);
        }
    }

    /** The current screen's number, then those of the visible ones in their row. */
    static void dueScreens(PaneDesk desk, int... numbers) {
        due("count(1)", desk.count(1), numbers.length);
        due("workspace(0, 0)", desk.workspace(0, 0), desk.workspace(1, numbers[0]));
        for (int k = 0; k < numbers.length; k++) {
            due("screen(" + numbers[k] + ", 4)", desk.screen(numbers[k], 4), k);
        }
    }

    /** The workspaces of the screens, by the screens' numbers. */
    static void dueWorkspaces(PaneDesk desk, int... workspaces) {
        for (int k = 0; k < workspaces.length; k++) {
            due("workspace(1, " + k + ")", desk.workspace(1, k), workspaces[k]);
        }
    }

    static void dueBox(PaneDesk desk, int window, int... box) {
        for (int what = 0; what < 4; what++) {
            due("shown(" + window + ", " + what + ")", desk.shown(window, what), box[what]);
        }
    }

    /** Where the windows of workspace 0 are shown, in order. */
    static void dueBoxes(PaneDesk desk, int[]... boxes) {
        due("row(0, 0)", desk.row(0, 0), boxes.length);
        for (int k = 0; k < boxes.length; k++) {
            dueBox(desk, desk.window(0, k), boxes[k]);
        }
    }

    static int[] box(int x, int y, int w, int h) {
        return new int[] {x, y, w, h};
    }

    static void dueNotShown(PaneDesk desk, int window) {
        dueBox(desk, window, NOWHERE, NOWHERE, NOWHERE, NOWHERE);
    }

    /** What sum() does to a start with some numbers. */
    static long summed(long start, int... numbers) {
        long sum = start;
        for (int number : numbers) {
            sum = (sum * 1000003L) ^ number;
        }
        return sum;
    }

    // ---- whether an event is kept

    private static String state(PaneDesk desk) {
        return desk.sum() + " " + desk.count(4) + " " + desk.count(5) + " " + desk.count(6);
    }

    /** A call that answers so, changes nothing, is not kept, and forgets nothing. */
    static void refused(String call, PaneDesk desk, IntSupplier asked, int want) {
        String ahead = state(desk);
        due(call, asked.getAsInt(), want);
        due(call + " leaves all as it was", state(desk).equals(ahead), true);
    }

    static void refused(String call, PaneDesk desk, BooleanSupplier asked) {
        refused(call, desk, () -> asked.getAsBoolean() ? 1 : 0, 0);
    }

    /** An event that tells true, is kept, forgets what redo() would have done, and is taken back and done again. */
    static void kept(String call, PaneDesk desk, BooleanSupplier asked) {
        long ahead = desk.sum();
        int many = Math.min(desk.count(4) + 1, 40);
        due(call, asked.getAsBoolean(), true);
        long behind = desk.sum();
        due(call + " changes something", behind != ahead, true);
        due(call + " is kept", desk.count(4), many);
        due(call + " forgets", desk.count(5), 0);
        due("undo() of " + call, desk.undo(), many - 1);
        due("sum() behind undo() of " + call, desk.sum(), ahead);
        due("redo() of " + call, desk.redo(), many);
        due("sum() behind redo() of " + call, desk.sum(), behind);
    }
}
