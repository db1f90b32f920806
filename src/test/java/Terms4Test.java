/** "Terms" 4: the latest 40 events, what an event behind undo() forgets, and events that change nothing. */
public final class Terms4Test extends DeskChecks {
    public static void main(String[] args) throws Exception {
        CHECKS.runAll(Terms4Test.class);
    }

    private static void undoAll(PaneDesk desk, int times) {
        int kept = desk.count(4);
        for (int i = 1; i <= times; i++) {
            due("undo()", desk.undo(), kept - i);
        }
    }

    private static void redoAll(PaneDesk desk, int times) {
        int kept = desk.count(4);
        for (int i = 1; i <= times; i++) {
            due("redo()", desk.redo(), kept + i);
        }
    }

    // ---- the latest 40

    /** "The latest 40": with 39, 40 and 41 events. */
    static void p20FortyAreKept() {
        PaneDesk desk = with(39);
        due("count(4)", desk.count(4), 39);
        desk.open();
        due("count(4)", desk.count(4), 40);
        desk.open();
        due("count(4)", desk.count(4), 40);
    }

    /** With 40 events all are taken back; the next undo() answers NONE and changes nothing. */
    static void p16FortyAreTakenBack() {
        PaneDesk desk = with(40);
        undoAll(desk, 40);
        due("count(0)", desk.count(0), 0);
        refused("undo()", desk, () -> desk.undo(), NONE);
    }

    /** With 41 events the first one is kept no more: its window stays. */
    static void p16TheFortyFirstIsNotTakenBack() {
        PaneDesk desk = with(41);
        undoAll(desk, 40);
        dueOrder(desk, 0, 0, 0);
        refused("undo()", desk, () -> desk.undo(), NONE);
    }

    /** The latest 40, not the first ones, when 40 have gone by twice and more. */
    static void p16TheLatestOfManyEvents() {
        PaneDesk desk = new PaneDesk();
        for (int part = 0; part < 103; part++) {
            desk.shape(1, part);
        }
        undoAll(desk, 40);
        due("row(0, 5)", desk.row(0, 5), 62);
        redoAll(desk, 40);
        due("row(0, 5)", desk.row(0, 5), 102);
    }

    /** 40 events taken back are done again, all of them, and then none. */
    static void p17FortyAreDoneAgain() {
        PaneDesk desk = with(45);
        undoAll(desk, 40);
        due("count(5)", desk.count(5), 40);
        redoAll(desk, 40);
        due("count(0)", desk.count(0), 45);
        due("count(5)", desk.count(5), 0);
        refused("redo()", desk, () -> desk.redo(), NONE);
    }

    /** An event with 40 kept, behind a redo(): still 40, and the oldest one is gone. */
    static void p16AnEventBehindRedoWithFortyKept() {
        PaneDesk desk = with(40);
        desk.undo();
        desk.redo();
        desk.open();
        due("count(4)", desk.count(4), 40);
        undoAll(desk, 40);
        due("count(0)", desk.count(0), 1);
    }

    // ---- what an event behind undo() forgets

    /** "An event behind undo() forgets what redo() would have done": all of it. */
    static void p17AnEventBehindUndoForgets() {
        PaneDesk desk = with(5);
        undoAll(desk, 3);
        due("count(5)", desk.count(5), 3);
        due("layout(3)", desk.layout(GRID), true);
        due("count(5)", desk.count(5), 0);
        due("count(4)", desk.count(4), 3);
        refused("redo()", desk, () -> desk.redo(), NONE);
        dueOrder(desk, 0, 1, 1, 0);
    }

    /** An event behind as many undo() as there are: it is the only one that is kept. */
    static void p16AnEventBehindAllUndo() {
        PaneDesk desk = with(45);
        undoAll(desk, 40);
        due("open()", desk.open(), 5);
        due("count(4)", desk.count(4), 1);
        due("count(5)", desk.count(5), 0);
        due("undo()", desk.undo(), 0);
        dueOrder(desk, 0, 4, 4, 3, 2, 1, 0);
        due("redo()", desk.redo(), 1);
        dueOrder(desk, 0, 5, 5, 4, 3, 2, 1, 0);
    }

    /** An event behind undo() and redo(): only what is still undone is forgotten. */
    static void p17AnEventBehindUndoAndRedo() {
        PaneDesk desk = with(4);
        undoAll(desk, 3);
        redoAll(desk, 2);
        due("close(0)", desk.close(0), true);
        due("count(4)", desk.count(4), 4);
        due("count(5)", desk.count(5), 0);
        undoAll(desk, 4);
        due("count(0)", desk.count(0), 0);
        redoAll(desk, 4);
        dueOrder(desk, 0, 2, 2, 1);
    }

    /** Every event forgets, of whatever kind. */
    static void p17EveryKindOfEventForgets() {
        for (int kind = 0; kind < 14; kind++) {
            PaneDesk desk = busy();
            due("count(5)", desk.count(5), 1);
            due("event " + kind, change(desk, kind), true);
            due("count(5), event " + kind, desk.count(5), 0);
            due("redo(), event " + kind, desk.redo(), NONE);
        }
    }

    /** One event of each kind that changes something in busy(). */
    private static boolean change(PaneDesk desk, int kind) {
        switch (kind) {
            case 0: return desk.open() == 3;
            case 1: return desk.close(2);
            case 2: return desk.move(0);
            case 3: return desk.view(8, false);
            case 4: return desk.view(3, true);
            case 5: return desk.shift(3);
            case 6: return desk.send(2, 0);
            case 7: return desk.focus(0);
            case 8: return desk.click(100, 0);
            case 9: return desk.lift(1, 100, 200, 300, 401);
            case 10: return desk.sink(1);
            case 11: return desk.layout(5);
            case 12: return desk.shape(2, 500);
            default: return desk.rescreen();
        }
    }

    // ---- with all as it was

    /** "With all as it was": each kind of event is kept once, taken back, and done again. */
    static void p16EveryKindOfEventIsTakenBack() {
        for (int kind = 0; kind < 14; kind++) {
            int event = kind;
            PaneDesk desk = busy();
            kept("event " + kind, desk, () -> change(desk, event));
        }
    }

    /** undo() and redo() tell "how many are kept then", and are no events themselves. */
    static void p16UndoIsNoEvent() {
        PaneDesk desk = with(3);
        for (int i = 0; i < 3; i++) {
            due("undo()", desk.undo(), 2);
            due("undo()", desk.undo(), 1);
            due("redo()", desk.redo(), 2);
            due("redo()", desk.redo(), 3);
            due("redo()", desk.redo(), NONE);
        }
        dueOrder(desk, 0, 2, 2, 1, 0);
    }

    /** A window that undo() took back is not there, and its number is given again. */
    static void p16AWindowTakenBackIsNotThere() {
        PaneDesk desk = with(2);
        desk.undo();
        due("place(1, 0)", desk.place(1, 0), NONE);
        refused("focus(1)", desk, () -> desk.focus(1));
        due("open()", desk.open(), 1);
    }

    /** A window that was closed is there again behind undo(), FLOATING with its numbers, in its place. */
    static void p16AClosedWindowComesBack() {
        PaneDesk desk = with(3);
        desk.lift(1, 5, 6, 7, 8);
        desk.focus(1);
        desk.close(1);
        desk.undo();
        dueOrder(desk, 0, 1, 2, 1, 0);
        int[] place = {0, 1, 1, 5, 6, 7, 8};
        for (int what = 0; what < 7; what++) {
            due("place(1, " + what + ")", desk.place(1, what), place[what]);
        }
    }

    /** undo() of a rescreen() brings back as many screens as there were, and redo() the others. */
    static void p16ScreensComeBack() {
        PaneDesk desk = screens(4);
        desk.rectangle(1, 2, 3, 4);
        desk.rescreen();
        desk.undo();
        dueScreens(desk, 0, 1, 2, 3);
        dueWorkspaces(desk, 0, 1, 2, 3);
        due("screen(3, 0)", desk.screen(3, 0), 300);
        dueHidden(desk, 4, 5, 6, 7, 8);
        desk.redo();
        dueScreens(desk, 0);
        due("screen(0, 3)", desk.screen(0, 3), 4);
    }

    /** "(rectangles that wait aside)": neither undo() nor redo() makes one wait, or wait no more. */
    static void p16RectanglesThatWaitStay() {
        PaneDesk desk = screens(3);
        due("undo()", desk.undo(), 0);
        due("count(6), the three do not wait again", desk.count(6), 0);
        due("rectangle(1, 2, 3, 4)", desk.rectangle(1, 2, 3, 4), 1);
        due("redo()", desk.redo(), 1);
        due("count(6)", desk.count(6), 1);
        due("undo()", desk.undo(), 0);
        due("count(6)", desk.count(6), 1);
        due("rescreen()", desk.rescreen(), true);
        due("screen(0, 2)", desk.screen(0, 2), 3);
        due("count(1)", desk.count(1), 1);
    }

    // ---- one that changes nothing

    /** "One that changes nothing is not kept and forgets nothing": each kind of event, with right arguments. */
    static void p17WhatChangesNothingForgetsNothing() {
        PaneDesk desk = busy();
        refused("view(0, false)", desk, () -> desk.view(0, false));
        refused("view(0, true)", desk, () -> desk.view(0, true));
        refused("shift(0)", desk, () -> desk.shift(0));
        refused("send(0, 0)", desk, () -> desk.send(0, 0));
        refused("send(2, 5)", desk, () -> desk.send(2, 5));
        refused("focus(1)", desk, () -> desk.focus(1));
        refused("move(2)", desk, () -> desk.move(2));
        refused("move(5)", desk, () -> desk.move(5));
        refused("move(6)", desk, () -> desk.move(6));
        refused("click(10, 20), the focus", desk, () -> desk.click(10, 20));
        refused("lift(1, 100, 200, 300, 400)", desk, () -> desk.lift(1, 100, 200, 300, 400));
        refused("sink(0)", desk, () -> desk.sink(0));
        refused("layout(0)", desk, () -> desk.layout(TALL));
        refused("shape(1, 500)", desk, () -> desk.shape(1, 500));
        due("redo()", desk.redo(), 10);
        due("row(0, 4)", desk.row(0, 4), 2);
    }

    /** open() with sixty there changes nothing, and forgets nothing. */
    static void p02OpenWithSixtyForgetsNothing() {
        PaneDesk desk = with(60);
        desk.layout(GRID);
        desk.undo();
        refused("open()", desk, () -> desk.open(), NONE);
        due("redo()", desk.redo(), 40);
    }

    /** rectangle() is no event: it is not kept and forgets nothing, whether it waits or not. */
    static void p14RectangleIsNoEvent() {
        PaneDesk desk = with(2);
        desk.undo();
        due("rectangle(0, 0, 1, 1)", desk.rectangle(0, 0, 1, 1), 1);
        due("rectangle(0, 0, 0, 1)", desk.rectangle(0, 0, 0, 1), NONE);
        due("count(4)", desk.count(4), 1);
        due("count(5)", desk.count(5), 1);
        due("redo()", desk.redo(), 2);
    }

    /** rescreen() to the screens that are there tells false, is not kept and forgets nothing; none waits then. */
    static void p15RescreenToTheSame() {
        PaneDesk desk = screens(2);
        desk.open();
        desk.undo();
        long sum = desk.sum();
        desk.rectangle(0, 0, 100, 100);
        desk.rectangle(100, 0, 100, 100);
        due("rescreen()", desk.rescreen(), false);
        due("count(6)", desk.count(6), 0);
        due("count(4)", desk.count(4), 1);
        due("count(5)", desk.count(5), 1);
        due("sum()", desk.sum(), sum);
    }

    /** "What an event tells is whether something changed": the rows of screens or HIDDEN ones alone are something. */
    static void p05OnlyTheRowOfScreensChanges() {
        PaneDesk desk = screens(3);
        kept("view(2, false)", desk, () -> desk.view(2, false));
        kept("view(0, false)", desk, () -> desk.view(0, false));
        dueScreens(desk, 0, 2, 1);
        dueWorkspaces(desk, 0, 1, 2);
    }

    /** An event that brings back an earlier state is one that changes something: both are kept. */
    static void p16ThereAndBackAreTwoEvents() {
        PaneDesk desk = with(2);
        desk.move(0);
        desk.move(0);
        due("count(4)", desk.count(4), 4);
        desk.undo();
        dueOrder(desk, 0, 0, 1, 0);
        desk.undo();
        dueOrder(desk, 0, 1, 1, 0);
    }

    /** "At most 512 calls": the 512th still answers, with 40 kept. */
    static void p20TheLastOfTheCalls() {
        PaneDesk desk = new PaneDesk();
        for (int call = 1; call < 512; call++) {
            desk.shape(call % 61, call);
        }
        due("count(4)", desk.count(4), 40);
    }
}
