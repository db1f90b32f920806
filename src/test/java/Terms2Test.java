/** "Terms" 2: the events where there is nothing above or below, no other window, or another kind of workspace. */
public final class Terms2Test extends DeskChecks {
    private static final int FOCUS_UP = 0;
    private static final int FOCUS_DOWN = 1;
    private static final int FOCUS_MASTER = 2;
    private static final int SWAP_UP = 3;
    private static final int SWAP_DOWN = 4;
    private static final int SWAP_MASTER = 5;
    private static final int SHIFT_MASTER = 6;

    public static void main(String[] args) throws Exception {
        CHECKS.runAll(Terms2Test.class);
    }

    /** Order 4 3 2 1 0 with a given focus. */
    private static PaneDesk fiveWith(int focus) {
        PaneDesk desk = with(5);
        desk.focus(focus);
        return desk;
    }

    /** One screen with workspace 0; window 0 is in 7; hidden are 3 7 1 2 4 5 6 8. */
    private static PaneDesk withOneInSeven() {
        PaneDesk desk = new PaneDesk();
        desk.view(7, false);
        desk.open();
        desk.view(3, false);
        desk.view(0, false);
        dueHidden(desk, 3, 7, 1, 2, 4, 5, 6, 8);
        return desk;
    }

    /** Four screens, 0 current with workspace 0, visible 1 3 2 with 1, 3 and 2; window 0 is in 3. */
    private static PaneDesk withOneOnScreenThree() {
        PaneDesk desk = screens(4);
        desk.view(3, false);
        desk.open();
        desk.view(1, false);
        desk.view(0, false);
        dueScreens(desk, 0, 1, 3, 2);
        return desk;
    }

    // ---- TO FOCUS

    /** FOCUS UP: "the nearest one ABOVE becomes the focus, the old focus the nearest one BELOW". */
    static void p04FocusUpWithOneAbove() {
        PaneDesk desk = fiveWith(2);
        kept("move(0)", desk, () -> desk.move(FOCUS_UP));
        dueOrder(desk, 0, 3, 4, 3, 2, 1, 0);
        kept("move(0)", desk, () -> desk.move(FOCUS_UP));
        dueOrder(desk, 0, 4, 4, 3, 2, 1, 0);
    }

    /** FOCUS UP: "without one ABOVE the farthest one BELOW becomes the focus, all others are ABOVE it, in their ORDER". */
    static void p04FocusUpWithoutOneAbove() {
        PaneDesk desk = fiveWith(4);
        kept("move(0)", desk, () -> desk.move(FOCUS_UP));
        dueOrder(desk, 0, 0, 4, 3, 2, 1, 0);
        kept("move(0)", desk, () -> desk.move(FOCUS_UP));
        dueOrder(desk, 0, 1, 4, 3, 2, 1, 0);
    }

    /** FOCUS DOWN: "likewise": the nearest one BELOW becomes the focus. */
    static void p04FocusDownWithOneBelow() {
        PaneDesk desk = fiveWith(1);
        kept("move(1)", desk, () -> desk.move(FOCUS_DOWN));
        dueOrder(desk, 0, 0, 4, 3, 2, 1, 0);
    }

    /** FOCUS DOWN, without one BELOW: the farthest one ABOVE becomes the focus, all others are BELOW it. */
    static void p04FocusDownWithoutOneBelow() {
        PaneDesk desk = fiveWith(0);
        kept("move(1)", desk, () -> desk.move(FOCUS_DOWN));
        dueOrder(desk, 0, 4, 4, 3, 2, 1, 0);
        kept("move(1)", desk, () -> desk.move(FOCUS_DOWN));
        dueOrder(desk, 0, 3, 4, 3, 2, 1, 0);
    }

    /** With two windows UP and DOWN both go to the other one, and back. */
    static void p04FocusOfTwoGoesRound() {
        PaneDesk desk = with(2);
        int[] focus = {0, 1, 0, 1};
        int[] what = {FOCUS_UP, FOCUS_UP, FOCUS_DOWN, FOCUS_DOWN};
        for (int i = 0; i < 4; i++) {
            due("move(" + what[i] + ")", desk.move(what[i]), true);
            dueOrder(desk, 0, focus[i], 1, 0);
        }
    }

    /** FOCUS MASTER: "the first one in ORDER becomes the focus; ORDER stays", from the last place and from the second. */
    static void p04FocusMaster() {
        for (int focus : new int[] {0, 3}) {
            PaneDesk desk = fiveWith(focus);
            kept("move(2)", desk, () -> desk.move(FOCUS_MASTER));
            dueOrder(desk, 0, 4, 4, 3, 2, 1, 0);
        }
    }

    /** FOCUS MASTER where it is the focus: "what comes is as it was". */
    static void p04FocusMasterAtTheMaster() {
        PaneDesk desk = fiveWith(4);
        refused("move(2)", desk, () -> desk.move(FOCUS_MASTER));
    }

    // ---- TO SWAP

    /** SWAP UP: "the nearest one ABOVE comes right BELOW the focus"; "the focus stays the focus". */
    static void p04SwapUpWithOneAbove() {
        PaneDesk desk = fiveWith(2);
        kept("move(3)", desk, () -> desk.move(SWAP_UP));
        dueOrder(desk, 0, 2, 4, 2, 3, 1, 0);
        kept("move(3)", desk, () -> desk.move(SWAP_UP));
        dueOrder(desk, 0, 2, 2, 4, 3, 1, 0);
    }

    /** SWAP UP: "without one ABOVE all BELOW come ABOVE (the ORDER of the others stays: the focus is last)". */
    static void p04SwapUpWithoutOneAbove() {
        PaneDesk desk = fiveWith(4);
        kept("move(3)", desk, () -> desk.move(SWAP_UP));
        dueOrder(desk, 0, 4, 3, 2, 1, 0, 4);
    }

    /** SWAP DOWN: "likewise the other way round": the nearest one BELOW comes right ABOVE the focus. */
    static void p04SwapDownWithOneBelow() {
        PaneDesk desk = fiveWith(2);
        kept("move(4)", desk, () -> desk.move(SWAP_DOWN));
        dueOrder(desk, 0, 2, 4, 3, 1, 2, 0);
    }

    /** SWAP DOWN, without one BELOW: all ABOVE come BELOW, the focus is first. */
    static void p04SwapDownWithoutOneBelow() {
        PaneDesk desk = fiveWith(0);
        kept("move(4)", desk, () -> desk.move(SWAP_DOWN));
        dueOrder(desk, 0, 0, 0, 4, 3, 2, 1);
    }

    /** With two windows SWAP UP and DOWN both change their places, from either one. */
    static void p04SwapOfTwo() {
        PaneDesk desk = with(2);
        int[] what = {SWAP_UP, SWAP_UP, SWAP_DOWN, SWAP_DOWN};
        for (int i = 0; i < 4; i++) {
            due("move(" + what[i] + ")", desk.move(what[i]), true);
            dueOrder(desk, 0, 1, i % 2 == 0 ? 0 : 1, i % 2 == 0 ? 1 : 0);
        }
    }

    /** SWAP MASTER: "the focus and the first one in ORDER change places": with others between them, which stay. */
    static void p04SwapMasterFromTheLastPlace() {
        PaneDesk desk = fiveWith(0);
        kept("move(5)", desk, () -> desk.move(SWAP_MASTER));
        dueOrder(desk, 0, 0, 0, 3, 2, 1, 4);
    }

    /** SWAP MASTER from the second place: none is between them. */
    static void p04SwapMasterFromTheSecondPlace() {
        PaneDesk desk = fiveWith(3);
        kept("move(5)", desk, () -> desk.move(SWAP_MASTER));
        dueOrder(desk, 0, 3, 3, 4, 2, 1, 0);
    }

    /** SHIFT TO MASTER: "the focus comes first, the ORDER of the others stays". */
    static void p04ShiftToMasterFromTheLastPlace() {
        PaneDesk desk = fiveWith(0);
        kept("move(6)", desk, () -> desk.move(SHIFT_MASTER));
        dueOrder(desk, 0, 0, 0, 4, 3, 2, 1);
    }

    /** SHIFT TO MASTER from a place in the middle: those BELOW stay where they are. */
    static void p04ShiftToMasterFromTheMiddle() {
        PaneDesk desk = fiveWith(2);
        kept("move(6)", desk, () -> desk.move(SHIFT_MASTER));
        dueOrder(desk, 0, 2, 2, 4, 3, 1, 0);
    }

    /** SWAP MASTER and SHIFT TO MASTER where the focus is first: "what comes is as it was". */
    static void p04TheMasterStaysMaster() {
        PaneDesk desk = fiveWith(4);
        refused("move(5)", desk, () -> desk.move(SWAP_MASTER));
        refused("move(6)", desk, () -> desk.move(SHIFT_MASTER));
    }

    /** "Nothing changes without WINDOWS". */
    static void p04MoveWithoutWindows() {
        PaneDesk desk = new PaneDesk();
        for (int what = 0; what <= 6; what++) {
            int moved = what;
            refused("move(" + what + ")", desk, () -> desk.move(moved));
        }
        dueNothing(desk, 0);
    }

    /** "Nothing changes .. with one alone". */
    static void p04MoveWithOneAlone() {
        PaneDesk desk = with(1);
        for (int what = 0; what <= 6; what++) {
            int moved = what;
            refused("move(" + what + ")", desk, () -> desk.move(moved));
        }
        dueOrder(desk, 0, 0, 0);
    }

    /** "In the CURRENT workspace": the windows of other ones do not count, and do not move. */
    static void p04MoveInTheCurrentWorkspaceAlone() {
        PaneDesk desk = fiveWith(2);
        desk.view(1, false);
        for (int what = 0; what <= 6; what++) {
            int moved = what;
            refused("move(" + what + ")", desk, () -> desk.move(moved));
        }
        dueOrder(desk, 0, 2, 4, 3, 2, 1, 0);
    }

    // ---- TO INSERT and TO REMOVE

    /** INSERT in a ROW that is nothing: it is the focus, alone. */
    static void p02InsertInNothing() {
        PaneDesk desk = new PaneDesk();
        due("open()", desk.open(), 0);
        dueOrder(desk, 0, 0, 0);
    }

    /** INSERT: "it becomes the focus, the old focus the nearest one BELOW", with the focus first, in the middle and last. */
    static void p02InsertAheadOfTheFocus() {
        PaneDesk first = fiveWith(4);
        due("open()", first.open(), 5);
        dueOrder(first, 0, 5, 5, 4, 3, 2, 1, 0);
        PaneDesk middle = fiveWith(2);
        due("open()", middle.open(), 5);
        dueOrder(middle, 0, 5, 4, 3, 5, 2, 1, 0);
        PaneDesk last = fiveWith(0);
        due("open()", last.open(), 5);
        dueOrder(last, 0, 5, 4, 3, 2, 1, 5, 0);
    }

    /** REMOVE: "if it was the focus, the nearest one BELOW is it", though there is one ABOVE. */
    static void p03RemoveTheFocusWithOneBelow() {
        PaneDesk desk = fiveWith(2);
        kept("close(2)", desk, () -> desk.close(2));
        dueOrder(desk, 0, 1, 4, 3, 1, 0);
        PaneDesk first = fiveWith(4);
        kept("close(4)", first, () -> first.close(4));
        dueOrder(first, 0, 3, 3, 2, 1, 0);
    }

    /** REMOVE: "without one the nearest one ABOVE". */
    static void p03RemoveTheFocusWithoutOneBelow() {
        PaneDesk desk = fiveWith(0);
        kept("close(0)", desk, () -> desk.close(0));
        dueOrder(desk, 0, 1, 4, 3, 2, 1);
    }

    /** REMOVE: "nothing, if there was no other". */
    static void p03RemoveTheFocusAlone() {
        PaneDesk desk = with(1);
        kept("close(0)", desk, () -> desk.close(0));
        dueNothing(desk, 0);
        due("open()", desk.open(), 0);
        dueOrder(desk, 0, 0, 0);
    }

    /** REMOVE of one that was not the focus: the focus stays, with one less ABOVE or BELOW. */
    static void p03RemoveAnotherOne() {
        PaneDesk desk = fiveWith(2);
        kept("close(4)", desk, () -> desk.close(4));
        dueOrder(desk, 0, 2, 3, 2, 1, 0);
        kept("close(0)", desk, () -> desk.close(0));
        dueOrder(desk, 0, 2, 3, 2, 1);
        kept("close(3)", desk, () -> desk.close(3));
        dueOrder(desk, 0, 2, 2, 1);
        kept("close(1)", desk, () -> desk.close(1));
        dueOrder(desk, 0, 2, 2);
    }

    /** REMOVE by close() is done where the window is: no workspace is VIEWED for it. */
    static void p03RemoveFromAHiddenRow() {
        PaneDesk desk = withOneInSeven();
        kept("close(0)", desk, () -> desk.close(0));
        dueNothing(desk, 7);
        dueHidden(desk, 3, 7, 1, 2, 4, 5, 6, 8);
        PaneDesk visible = withOneOnScreenThree();
        kept("close(0)", visible, () -> visible.close(0));
        dueScreens(visible, 0, 1, 3, 2);
    }

    // ---- TO VIEW

    /** VIEW: "if the CURRENT screen has it, nothing changes". */
    static void p05ViewTheCurrentOne() {
        PaneDesk desk = screens(3);
        refused("view(0, false)", desk, () -> desk.view(0, false));
        refused("view(0, true)", desk, () -> desk.view(0, true));
        desk.view(2, false);
        refused("view(2, false)", desk, () -> desk.view(2, false));
        refused("view(2, true)", desk, () -> desk.view(2, true));
    }

    /** VIEW: "If a VISIBLE one has it, that becomes CURRENT, and the one that was CURRENT comes first in the row". */
    static void p05ViewAVisibleOne() {
        PaneDesk desk = screens(4);
        kept("view(3, false), last in the row", desk, () -> desk.view(3, false));
        dueScreens(desk, 3, 0, 1, 2);
        kept("view(1, false), in the middle", desk, () -> desk.view(1, false));
        dueScreens(desk, 1, 3, 0, 2);
        kept("view(3, false), first in the row", desk, () -> desk.view(3, false));
        dueScreens(desk, 3, 1, 0, 2);
        dueWorkspaces(desk, 0, 1, 2, 3);
        dueHidden(desk, 4, 5, 6, 7, 8);
    }

    /** VIEW: "If it is HIDDEN the CURRENT screen has it from now on, and the workspace that it had comes first". */
    static void p05ViewAHiddenOne() {
        PaneDesk desk = screens(4);
        desk.view(2, false);
        kept("view(8, false), last in the row", desk, () -> desk.view(8, false));
        dueHidden(desk, 2, 4, 5, 6, 7);
        kept("view(5, false), in the middle", desk, () -> desk.view(5, false));
        dueHidden(desk, 8, 2, 4, 6, 7);
        kept("view(8, false), first in the row", desk, () -> desk.view(8, false));
        dueHidden(desk, 5, 2, 4, 6, 7);
        dueScreens(desk, 2, 0, 1, 3);
        dueWorkspaces(desk, 0, 1, 8, 3);
    }

    /** GREEDY: "if it is HIDDEN, likewise". */
    static void p05GreedyForAHiddenOne() {
        PaneDesk desk = screens(3);
        kept("view(8, true)", desk, () -> desk.view(8, true));
        dueHidden(desk, 0, 3, 4, 5, 6, 7);
        dueScreens(desk, 0, 1, 2);
        dueWorkspaces(desk, 8, 1, 2);
    }

    /** GREEDY: "if a VISIBLE screen has it, it and the CURRENT one change workspaces, and that VISIBLE screen comes first". */
    static void p05GreedyForAVisibleOne() {
        PaneDesk desk = screens(4);
        kept("view(3, true), last in the row", desk, () -> desk.view(3, true));
        dueScreens(desk, 0, 3, 1, 2);
        dueWorkspaces(desk, 3, 1, 2, 0);
        kept("view(1, true), in the middle", desk, () -> desk.view(1, true));
        dueScreens(desk, 0, 1, 3, 2);
        dueWorkspaces(desk, 1, 3, 2, 0);
        kept("view(3, true), first in the row", desk, () -> desk.view(3, true));
        dueScreens(desk, 0, 1, 3, 2);
        dueWorkspaces(desk, 3, 1, 2, 0);
        dueHidden(desk, 4, 5, 6, 7, 8);
    }

    // ---- TO DO something ON a workspace, TO SHIFT

    /** SHIFT to a HIDDEN workspace: it is VIEWED and left, and so comes first among HIDDEN ones. */
    static void p06ShiftToAHiddenOne() {
        PaneDesk desk = with(1);
        kept("shift(5)", desk, () -> desk.shift(5));
        due("workspace(0, 0)", desk.workspace(0, 0), 0);
        dueHidden(desk, 5, 1, 2, 3, 4, 6, 7, 8);
        dueOrder(desk, 5, 0, 0);
    }

    /** SHIFT to the HIDDEN one that is first: the row of HIDDEN ones is the same, the window is shifted all the same. */
    static void p06ShiftToTheFirstHiddenOne() {
        PaneDesk desk = with(1);
        kept("shift(1)", desk, () -> desk.shift(1));
        dueHidden(desk, 1, 2, 3, 4, 5, 6, 7, 8);
        dueOrder(desk, 1, 0, 0);
    }

    /** SHIFT to a VISIBLE workspace: its screen comes first in the row, and the CURRENT one stays CURRENT. */
    static void p06ShiftToAVisibleOne() {
        PaneDesk desk = screens(4);
        desk.open();
        kept("shift(3)", desk, () -> desk.shift(3));
        dueScreens(desk, 0, 3, 1, 2);
        dueWorkspaces(desk, 0, 1, 2, 3);
        dueHidden(desk, 4, 5, 6, 7, 8);
        dueOrder(desk, 3, 0, 0);
    }

    /** SHIFT: "if it stands in another one": to the CURRENT workspace nothing changes. */
    static void p06ShiftToTheSameOne() {
        PaneDesk desk = fiveWith(2);
        refused("shift(0)", desk, () -> desk.shift(0));
    }

    /** SHIFT: "on f it is REMOVED": the focus of f is the nearest one BELOW, without one ABOVE, then nothing. */
    static void p06WhatShiftLeaves() {
        PaneDesk desk = fiveWith(1);
        desk.shift(3);
        dueOrder(desk, 0, 0, 4, 3, 2, 0);
        desk.shift(3);
        dueOrder(desk, 0, 2, 4, 3, 2);
        desk.move(FOCUS_MASTER);
        desk.shift(3);
        desk.shift(3);
        desk.shift(3);
        dueNothing(desk, 0);
        dueOrder(desk, 3, 2, 2, 3, 4, 0, 1);
    }

    /** SHIFT: "then on n it is INSERTED": it becomes the focus there, the old one, not first, the nearest one BELOW. */
    static void p07SendIntoTheMiddle() {
        PaneDesk desk = fiveWith(2);
        desk.view(4, false);
        desk.open();
        kept("send(5, 0)", desk, () -> desk.send(5, 0));
        dueOrder(desk, 0, 5, 4, 3, 5, 2, 1, 0);
        dueNothing(desk, 4);
        due("workspace(0, 0)", desk.workspace(0, 0), 4);
    }

    /** SHIFT of a WINDOW that is not the focus: the focus of its ROW stays. */
    static void p07SendAnotherThanTheFocus() {
        PaneDesk desk = fiveWith(2);
        kept("send(4, 6)", desk, () -> desk.send(4, 6));
        dueOrder(desk, 0, 2, 3, 2, 1, 0);
        kept("send(0, 6)", desk, () -> desk.send(0, 6));
        dueOrder(desk, 0, 2, 3, 2, 1);
        dueOrder(desk, 6, 0, 0, 4);
    }

    /** SHIFT: "it stays FLOATING if it is", and stays a TILE if it is not. */
    static void p07SendKeepsItFloating() {
        PaneDesk desk = with(2);
        desk.lift(0, 1, 20, 300, 1000);
        desk.send(0, 3);
        desk.send(1, 3);
        int[] numbers = {3, 1, 1, 1, 20, 300, 1000};
        for (int what = 0; what < 7; what++) {
            due("place(0, " + what + ")", desk.place(0, what), numbers[what]);
        }
        due("place(1, 2)", desk.place(1, 2), 0);
        due("row(3, 6)", desk.row(3, 6), 1);
    }

    /** SHIFT from one HIDDEN workspace to another: each of them comes first, f and then n. */
    static void p07SendFromHiddenToHidden() {
        PaneDesk desk = withOneInSeven();
        kept("send(0, 5)", desk, () -> desk.send(0, 5));
        dueHidden(desk, 5, 7, 3, 1, 2, 4, 6, 8);
        dueOrder(desk, 5, 0, 0);
        dueNothing(desk, 7);
    }

    /** SHIFT from a HIDDEN workspace to the CURRENT one: f alone comes first. */
    static void p07SendFromHiddenToCurrent() {
        PaneDesk desk = withOneInSeven();
        kept("send(0, 0)", desk, () -> desk.send(0, 0));
        dueHidden(desk, 7, 3, 1, 2, 4, 5, 6, 8);
        dueOrder(desk, 0, 0, 0);
    }

    /** SHIFT from a HIDDEN workspace to the same one: nothing is VIEWED, the rows stay. */
    static void p07SendFromHiddenToTheSame() {
        PaneDesk desk = withOneInSeven();
        refused("send(0, 7)", desk, () -> desk.send(0, 7));
        dueHidden(desk, 3, 7, 1, 2, 4, 5, 6, 8);
    }

    /** SHIFT from one VISIBLE workspace to another: each screen comes first, f's and then n's. */
    static void p07SendFromVisibleToVisible() {
        PaneDesk desk = withOneOnScreenThree();
        kept("send(0, 2)", desk, () -> desk.send(0, 2));
        dueScreens(desk, 0, 2, 3, 1);
        dueWorkspaces(desk, 0, 1, 2, 3);
        dueOrder(desk, 2, 0, 0);
    }

    /** SHIFT from a VISIBLE workspace to the CURRENT one: f's screen alone comes first. */
    static void p07SendFromVisibleToCurrent() {
        PaneDesk desk = withOneOnScreenThree();
        kept("send(0, 0)", desk, () -> desk.send(0, 0));
        dueScreens(desk, 0, 3, 1, 2);
        dueOrder(desk, 0, 0, 0);
    }

    /** SHIFT from a VISIBLE workspace to the same one: nothing is VIEWED, the rows stay. */
    static void p07SendFromVisibleToTheSame() {
        PaneDesk desk = withOneOnScreenThree();
        refused("send(0, 3)", desk, () -> desk.send(0, 3));
        dueScreens(desk, 0, 1, 3, 2);
    }

    /** SHIFT from a VISIBLE workspace to a HIDDEN one: f's screen comes first, and n among HIDDEN ones. */
    static void p07SendFromVisibleToHidden() {
        PaneDesk desk = withOneOnScreenThree();
        kept("send(0, 8)", desk, () -> desk.send(0, 8));
        dueScreens(desk, 0, 3, 1, 2);
        dueHidden(desk, 8, 4, 5, 6, 7);
        dueWorkspaces(desk, 0, 1, 2, 3);
        dueOrder(desk, 8, 0, 0);
    }

    /** SHIFT from a HIDDEN workspace to a VISIBLE one: f comes first among HIDDEN ones, and n's screen in its row. */
    static void p07SendFromHiddenToVisible() {
        PaneDesk desk = screens(3);
        desk.view(8, false);
        desk.open();
        desk.view(4, false);
        desk.view(0, false);
        dueHidden(desk, 4, 8, 3, 5, 6, 7);
        kept("send(0, 2)", desk, () -> desk.send(0, 2));
        dueHidden(desk, 8, 4, 3, 5, 6, 7);
        dueScreens(desk, 0, 2, 1);
        dueOrder(desk, 2, 0, 0);
    }

    // ---- TO FOCUS a WINDOW

    /** FOCUS a WINDOW: "nothing, if it is the focus of the CURRENT workspace". */
    static void p08FocusTheFocus() {
        PaneDesk desk = fiveWith(2);
        refused("focus(2)", desk, () -> desk.focus(2));
    }

    /** FOCUS a WINDOW ABOVE or BELOW: "FOCUS UP is done until it is the focus", round the row's end too; ORDER stays. */
    static void p08FocusAboveAndBelow() {
        for (int window : new int[] {0, 1, 3, 4}) {
            PaneDesk desk = fiveWith(2);
            kept("focus(" + window + ")", desk, () -> desk.focus(window));
            dueOrder(desk, 0, window, 4, 3, 2, 1, 0);
        }
    }

    /** FOCUS a WINDOW that is the focus of a VISIBLE workspace: that is VIEWED, which changes something. */
    static void p08FocusTheFocusOfAVisibleOne() {
        PaneDesk desk = withOneOnScreenThree();
        kept("focus(0)", desk, () -> desk.focus(0));
        dueScreens(desk, 3, 0, 1, 2);
        dueOrder(desk, 3, 0, 0);
    }

    /** FOCUS a WINDOW of a HIDDEN workspace: that is VIEWED on the CURRENT screen. */
    static void p08FocusInAHiddenOne() {
        PaneDesk desk = withOneInSeven();
        kept("focus(0)", desk, () -> desk.focus(0));
        due("workspace(0, 0)", desk.workspace(0, 0), 7);
        dueHidden(desk, 0, 3, 1, 2, 4, 5, 6, 8);
        PaneDesk five = fiveWith(2);
        five.view(6, false);
        kept("focus(4)", five, () -> five.focus(4));
        dueOrder(five, 0, 4, 4, 3, 2, 1, 0);
        due("workspace(0, 0)", five.workspace(0, 0), 0);
    }

    // ---- RESCREENED

    /** RESCREENED from one screen to four: the CURRENT workspace, then the HIDDEN ones in order. */
    static void p15FromOneScreenToFour() {
        PaneDesk desk = new PaneDesk();
        desk.view(7, false);
        for (int k = 0; k < 4; k++) {
            desk.rectangle(10 * k, k, 10, 5 + k);
        }
        kept("rescreen()", desk, () -> desk.rescreen());
        dueScreens(desk, 0, 1, 2, 3);
        dueWorkspaces(desk, 7, 0, 1, 2);
        dueHidden(desk, 3, 4, 5, 6, 8);
        due("screen(3, 3)", desk.screen(3, 3), 8);
    }

    /** RESCREENED from four screens to one: the VISIBLE ones' workspaces, in their row's order, come ahead of the HIDDEN ones. */
    static void p15FromFourScreensToOne() {
        PaneDesk desk = screens(4);
        desk.view(2, false);
        desk.view(1, false);
        dueScreens(desk, 1, 2, 0, 3);
        desk.rectangle(5, 6, 7, 8);
        kept("rescreen()", desk, () -> desk.rescreen());
        dueScreens(desk, 0);
        dueWorkspaces(desk, 1);
        dueHidden(desk, 2, 0, 3, 4, 5, 6, 7, 8);
        due("screen(0, 0)", desk.screen(0, 0), 5);
        due("screen(1, 0)", desk.screen(1, 0), NOWHERE);
    }

    /** RESCREENED: the CURRENT workspace comes to screen 0, whichever screen it was on; what is over is HIDDEN. */
    static void p15CurrentComesToScreenZero() {
        PaneDesk desk = screens(4);
        desk.view(3, false);
        desk.view(8, false);
        dueScreens(desk, 3, 0, 1, 2);
        desk.rectangle(1, 1, 1, 1);
        desk.rectangle(2, 2, 2, 2);
        kept("rescreen()", desk, () -> desk.rescreen());
        dueScreens(desk, 0, 1);
        dueWorkspaces(desk, 8, 0);
        dueHidden(desk, 1, 2, 3, 4, 5, 6, 7);
    }

    /** RESCREENED: "screen 0 .. is CURRENT", though another one was, and that one is there still, with another workspace. */
    static void p15ScreenZeroIsCurrent() {
        PaneDesk desk = screens(4);
        desk.view(2, false);
        for (int k = 0; k < 4; k++) {
            desk.rectangle(100 * k, 0, 100, 100);
        }
        kept("rescreen()", desk, () -> desk.rescreen());
        due("workspace(0, 0)", desk.workspace(0, 0), 2);
        dueScreens(desk, 0, 1, 2, 3);
        dueWorkspaces(desk, 2, 0, 1, 3);
        desk.view(8, false);
        dueWorkspaces(desk, 8, 0, 1, 3);
    }

    /** RESCREENED: the ROWS, LAYOUTS and FLOATING ones stay with their workspaces. */
    static void p15RowsStay() {
        PaneDesk desk = fiveWith(2);
        desk.layout(GRID);
        desk.lift(4, 1, 2, 3, 4);
        desk.view(1, false);
        desk.rectangle(0, 0, 9, 9);
        desk.rescreen();
        dueOrder(desk, 0, 2, 4, 3, 2, 1, 0);
        due("row(0, 3)", desk.row(0, 3), GRID);
        due("row(0, 7)", desk.row(0, 7), NONE);
        due("place(4, 2)", desk.place(4, 2), 1);
    }
}
