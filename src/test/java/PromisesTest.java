/** For each promise of the document: ordinary calls, the edges that it names, and wrong ones, reckoned by hand. */
public final class PromisesTest extends DeskChecks {
    public static void main(String[] args) throws Exception {
        CHECKS.runAll(PromisesTest.class);
    }

    // ---- events

    /** Promise 1. */
    static void p01ANewObject() {
        PaneDesk desk = new PaneDesk();
        dueScreens(desk, 0);
        due("screen(0, 0)", desk.screen(0, 0), 0);
        due("screen(0, 1)", desk.screen(0, 1), 0);
        due("screen(0, 2)", desk.screen(0, 2), 800);
        due("screen(0, 3)", desk.screen(0, 3), 600);
        due("workspace(0, 0)", desk.workspace(0, 0), 0);
        dueHidden(desk, 1, 2, 3, 4, 5, 6, 7, 8);
        for (int i = 0; i < 9; i++) {
            dueOrder(desk, i, -1);
            due("row(i, 2)", desk.row(i, 2), -1);
            due("row(i, 3)", desk.row(i, 3), 0);
            due("row(i, 4)", desk.row(i, 4), 1);
            due("row(i, 5)", desk.row(i, 5), 500);
        }
        for (int what : new int[] {0, 3, 4, 5, 6}) {
            due("count(" + what + ")", desk.count(what), 0);
        }
        due("NONE", PaneDesk.NONE, -1);
    }

    /** Promise 2. */
    static void p02Open() {
        PaneDesk desk = with(3);
        dueOrder(desk, 0, 2, 2, 1, 0);
        desk.move(1);
        due("open()", desk.open(), 3);
        dueOrder(desk, 0, 3, 2, 3, 1, 0);
        desk.close(1);
        desk.close(2);
        due("open()", desk.open(), 1);
        desk.view(4, false);
        due("open()", desk.open(), 2);
        dueOrder(desk, 4, 2, 2);
        PaneDesk full = with(60);
        due("open()", full.open(), -1);
        due("count(0)", full.count(0), 60);
        due("count(4)", full.count(4), 40);
        full.undo();
        full.redo();
        full.undo();
        due("open()", full.open(), 59);
        due("open()", full.open(), -1);
    }

    /** Promise 3. */
    static void p03Close() {
        PaneDesk desk = with(5);
        desk.move(1);
        dueOrder(desk, 0, 3, 4, 3, 2, 1, 0);
        due("close(3)", desk.close(3), true);
        dueOrder(desk, 0, 2, 4, 2, 1, 0);
        due("close(4)", desk.close(4), true);
        dueOrder(desk, 0, 2, 2, 1, 0);
        due("close(1)", desk.close(1), true);
        dueOrder(desk, 0, 2, 2, 0);
        desk.move(1);
        due("close(0)", desk.close(0), true);
        dueOrder(desk, 0, 2, 2);
        desk.lift(2, 1, 2, 3, 4);
        due("close(2)", desk.close(2), true);
        dueOrder(desk, 0, -1);
        due("count(3)", desk.count(3), 0);
        due("close(2)", desk.close(2), false);
        due("close(-1)", desk.close(-1), false);
        due("close(60)", desk.close(60), false);
        due("close(LOW)", desk.close(LOW), false);
        due("close(HIGH)", desk.close(HIGH), false);
        for (int i = 0; i < 3; i++) {
            desk.open();
        }
        due("place(2, 2)", desk.place(2, 2), 0);
        desk.view(6, false);
        due("close(1)", desk.close(1), true);
        dueOrder(desk, 0, 2, 2, 0);
        dueHidden(desk, 0, 1, 2, 3, 4, 5, 7, 8);
    }

    /** Promise 4, focus. */
    static void p04MoveFocus() {
        PaneDesk desk = with(4);
        due("move(0)", desk.move(0), true);
        dueOrder(desk, 0, 0, 3, 2, 1, 0);
        due("move(0)", desk.move(0), true);
        dueOrder(desk, 0, 1, 3, 2, 1, 0);
        due("move(1)", desk.move(1), true);
        due("move(1)", desk.move(1), true);
        dueOrder(desk, 0, 3, 3, 2, 1, 0);
        due("move(1)", desk.move(1), true);
        due("move(1)", desk.move(1), true);
        due("move(2)", desk.move(2), true);
        dueOrder(desk, 0, 3, 3, 2, 1, 0);
    }

    /** Promise 4, swap. */
    static void p04MoveSwap() {
        PaneDesk desk = with(4);
        due("move(3)", desk.move(3), true);
        dueOrder(desk, 0, 3, 2, 1, 0, 3);
        due("move(3)", desk.move(3), true);
        dueOrder(desk, 0, 3, 2, 1, 3, 0);
        due("move(4)", desk.move(4), true);
        dueOrder(desk, 0, 3, 2, 1, 0, 3);
        due("move(4)", desk.move(4), true);
        dueOrder(desk, 0, 3, 3, 2, 1, 0);
        desk.move(0);
        desk.move(0);
        due("move(5)", desk.move(5), true);
        dueOrder(desk, 0, 1, 1, 2, 3, 0);
        desk.move(0);
        due("move(6)", desk.move(6), true);
        dueOrder(desk, 0, 0, 0, 1, 2, 3);
        desk.view(1, false);
        desk.move(3);
        dueOrder(desk, 0, 0, 0, 1, 2, 3);
    }

    /** Promise 4, no change. */
    static void p04MoveWithoutChange() {
        PaneDesk empty = new PaneDesk();
        PaneDesk one = with(1);
        PaneDesk two = with(2);
        for (int what = -2; what < 10; what++) {
            due("move(" + what + ")", empty.move(what), false);
            due("move(" + what + ")", one.move(what), false);
        }
        for (int what : new int[] {2, 5, 6, -1, 7, LOW, HIGH}) {
            due("move(" + what + ")", two.move(what), false);
        }
        due("count(4)", empty.count(4), 0);
        due("count(4)", one.count(4), 1);
        due("count(4)", two.count(4), 2);
    }

    /** Promise 5. */
    static void p05View() {
        PaneDesk desk = screens(3);
        due("view(0, false)", desk.view(0, false), false);
        due("view(2, false)", desk.view(2, false), true);
        dueScreens(desk, 2, 0, 1);
        due("view(1, false)", desk.view(1, false), true);
        dueScreens(desk, 1, 2, 0);
        dueHidden(desk, 3, 4, 5, 6, 7, 8);
        due("view(5, false)", desk.view(5, false), true);
        dueScreens(desk, 1, 2, 0);
        dueHidden(desk, 1, 3, 4, 6, 7, 8);
        due("workspace(1, 1)", desk.workspace(1, 1), 5);
        for (int wrong : new int[] {-1, 9, LOW, HIGH}) {
            due("view(wrong, false)", desk.view(wrong, false), false);
            due("view(wrong, true)", desk.view(wrong, true), false);
        }
        due("count(4)", desk.count(4), 4);
    }

    /** Promise 5, greedy. */
    static void p05ViewGreedily() {
        PaneDesk desk = screens(3);
        due("view(0, true)", desk.view(0, true), false);
        due("view(2, true)", desk.view(2, true), true);
        dueScreens(desk, 0, 2, 1);
        due("workspace(2, 2)", desk.workspace(2, 2), -1);
        due("workspace(1, 0)", desk.workspace(1, 0), 2);
        due("workspace(1, 1)", desk.workspace(1, 1), 1);
        due("workspace(1, 2)", desk.workspace(1, 2), 0);
        due("view(8, true)", desk.view(8, true), true);
        dueScreens(desk, 0, 2, 1);
        dueHidden(desk, 2, 3, 4, 5, 6, 7);
        due("workspace(0, 0)", desk.workspace(0, 0), 8);
    }

    /** Promise 6. */
    static void p06Shift() {
        PaneDesk desk = screens(3);
        due("shift(3)", desk.shift(3), false);
        desk.open();
        desk.open();
        desk.open();
        desk.lift(2, 1, 2, 3, 4);
        due("shift(0)", desk.shift(0), false);
        due("shift(-1)", desk.shift(-1), false);
        due("shift(9)", desk.shift(9), false);
        due("shift(2)", desk.shift(2), true);
        dueScreens(desk, 0, 2, 1);
        dueOrder(desk, 0, 1, 1, 0);
        dueOrder(desk, 2, 2, 2);
        due("place(2, 2)", desk.place(2, 2), 1);
        due("shift(6)", desk.shift(6), true);
        dueHidden(desk, 6, 3, 4, 5, 7, 8);
        due("shift(6)", desk.shift(6), true);
        dueOrder(desk, 6, 0, 0, 1);
        dueOrder(desk, 0, -1);
        due("shift(6)", desk.shift(6), false);
        due("count(4)", desk.count(4), 8);
    }

    /** Promise 7. */
    static void p07Send() {
        PaneDesk desk = screens(3);
        desk.open();
        desk.view(7, false);
        desk.open();
        desk.open();
        desk.view(0, false);
        dueHidden(desk, 7, 3, 4, 5, 6, 8);
        due("send(1, 5)", desk.send(1, 5), true);
        dueHidden(desk, 5, 7, 3, 4, 6, 8);
        dueOrder(desk, 7, 2, 2);
        dueOrder(desk, 5, 1, 1);
        due("send(2, 2)", desk.send(2, 2), true);
        dueHidden(desk, 7, 5, 3, 4, 6, 8);
        dueScreens(desk, 0, 2, 1);
        due("send(2, 1)", desk.send(2, 1), true);
        dueScreens(desk, 0, 1, 2);
        due("send(2, 0)", desk.send(2, 0), true);
        dueOrder(desk, 0, 2, 2, 0);
        due("send(2, 0)", desk.send(2, 0), false);
        due("send(3, 0)", desk.send(3, 0), false);
        due("send(-1, 0)", desk.send(-1, 0), false);
        due("send(60, 0)", desk.send(60, 0), false);
        due("send(2, 9)", desk.send(2, 9), false);
        due("send(2, -1)", desk.send(2, -1), false);
    }

    /** Promise 8. */
    static void p08Focus() {
        PaneDesk desk = screens(3);
        desk.open();
        desk.open();
        desk.open();
        due("focus(2)", desk.focus(2), false);
        due("focus(0)", desk.focus(0), true);
        dueOrder(desk, 0, 0, 2, 1, 0);
        desk.view(1, false);
        due("focus(0)", desk.focus(0), true);
        dueScreens(desk, 0, 1, 2);
        desk.view(8, false);
        due("focus(1)", desk.focus(1), true);
        due("workspace(0, 0)", desk.workspace(0, 0), 0);
        dueHidden(desk, 8, 3, 4, 5, 6, 7);
        dueOrder(desk, 0, 1, 2, 1, 0);
        for (int wrong : new int[] {3, -1, 60, LOW, HIGH}) {
            due("focus(wrong)", desk.focus(wrong), false);
        }
    }

    /** Promise 9. */
    static void p09Click() {
        PaneDesk desk = screens(3);
        desk.open();
        desk.open();
        due("click(0, 0)", desk.click(0, 0), false);
        due("click(50, 99)", desk.click(50, 99), true);
        due("row(0, 1)", desk.row(0, 1), 0);
        due("click(100, 0)", desk.click(100, 0), true);
        due("workspace(0, 0)", desk.workspace(0, 0), 1);
        due("click(199, 99)", desk.click(199, 99), false);
        due("click(200, 0)", desk.click(200, 0), true);
        dueScreens(desk, 2, 1, 0);
        due("click(49, 50)", desk.click(49, 50), true);
        dueScreens(desk, 0, 2, 1);
        due("row(0, 1)", desk.row(0, 1), 1);
        for (int[] p : new int[][] {{-1, 0}, {0, -1}, {300, 0}, {0, 100}, {LOW, LOW}, {HIGH, HIGH}}) {
            due("click(off)", desk.click(p[0], p[1]), false);
        }
    }

    /** Promise 10. */
    static void p10Lift() {
        PaneDesk desk = with(2);
        due("lift(0, 0, 0, 0, 0)", desk.lift(0, 0, 0, 0, 0), true);
        due("lift(0, 0, 0, 0, 0)", desk.lift(0, 0, 0, 0, 0), false);
        due("lift(0, 1000, 1000, 1000, 1000)", desk.lift(0, 1000, 1000, 1000, 1000), true);
        due("lift(0, 1000, 1000, 1000, 999)", desk.lift(0, 1000, 1000, 1000, 999), true);
        for (int wrong : new int[] {-1, 1001, LOW, HIGH}) {
            due("lift(1, wrong, 0, 0, 0)", desk.lift(1, wrong, 0, 0, 0), false);
            due("lift(1, 0, wrong, 0, 0)", desk.lift(1, 0, wrong, 0, 0), false);
            due("lift(1, 0, 0, wrong, 0)", desk.lift(1, 0, 0, wrong, 0), false);
            due("lift(1, 0, 0, 0, wrong)", desk.lift(1, 0, 0, 0, wrong), false);
            due("lift(wrong, 0, 0, 0, 0)", desk.lift(wrong, 0, 0, 0, 0), false);
        }
        due("lift(2, 0, 0, 0, 0)", desk.lift(2, 0, 0, 0, 0), false);
        due("count(3)", desk.count(3), 1);
        due("count(4)", desk.count(4), 5);
        PaneDesk full = with(60);
        for (int window : new int[] {0, 59}) {
            due("lift", full.lift(window, 5, 5, 5, 5), true);
            due("lift, first number", full.lift(window, 6, 5, 5, 5), true);
            due("lift, second number", full.lift(window, 6, 6, 5, 5), true);
            due("lift, third number", full.lift(window, 6, 6, 6, 5), true);
            due("lift, fourth number", full.lift(window, 6, 6, 6, 6), true);
            due("lift, no number", full.lift(window, 6, 6, 6, 6), false);
        }
    }

    /** Promise 11. */
    static void p11Sink() {
        PaneDesk desk = with(2);
        desk.lift(0, 1, 2, 3, 4);
        due("sink(1)", desk.sink(1), false);
        due("sink(0)", desk.sink(0), true);
        due("place(0, 2)", desk.place(0, 2), 0);
        due("place(0, 6)", desk.place(0, 6), 0);
        due("sink(0)", desk.sink(0), false);
        for (int wrong : new int[] {2, -1, 60, LOW, HIGH}) {
            due("sink(wrong)", desk.sink(wrong), false);
        }
        due("count(4)", desk.count(4), 4);
    }

    /** Promise 12. */
    static void p12Layout() {
        PaneDesk desk = new PaneDesk();
        desk.shape(3, 250);
        due("layout(0)", desk.layout(0), false);
        for (int kind = 1; kind < 6; kind++) {
            due("layout(" + kind + ")", desk.layout(kind), true);
            due("row(0, 3)", desk.row(0, 3), kind);
        }
        due("layout(0)", desk.layout(0), true);
        due("layout(5)", desk.layout(5), true);
        due("row(0, 4)", desk.row(0, 4), 3);
        due("row(0, 5)", desk.row(0, 5), 250);
        due("row(1, 3)", desk.row(1, 3), 0);
        for (int wrong : new int[] {6, -1, LOW, HIGH}) {
            due("layout(wrong)", desk.layout(wrong), false);
        }
        due("row(0, 3)", desk.row(0, 3), 5);
    }

    /** Promise 13. */
    static void p13Shape() {
        PaneDesk desk = new PaneDesk();
        due("shape(1, 500)", desk.shape(1, 500), false);
        due("shape(0, 0)", desk.shape(0, 0), true);
        due("shape(60, 1000)", desk.shape(60, 1000), true);
        due("shape(60, 999)", desk.shape(60, 999), true);
        for (int[] wrong : new int[][] {{61, 1}, {-1, 1}, {1, 1001}, {1, -1}, {LOW, HIGH}, {HIGH, LOW}}) {
            due("shape(wrong)", desk.shape(wrong[0], wrong[1]), false);
        }
        due("row(0, 4)", desk.row(0, 4), 60);
        due("row(0, 5)", desk.row(0, 5), 999);
        due("row(1, 4)", desk.row(1, 4), 1);
        due("count(4)", desk.count(4), 3);
    }

    /** Promise 14. */
    static void p14Rectangle() {
        PaneDesk desk = with(1);
        desk.undo();
        int[][] wrong = {
            {-10001, 0, 1, 1}, {10001, 0, 1, 1}, {0, -10001, 1, 1}, {0, 10001, 1, 1},
            {0, 0, 0, 1}, {0, 0, 1, 0}, {0, 0, 10001, 1}, {0, 0, 1, 10001}, {LOW, LOW, LOW, LOW}, {HIGH, HIGH, HIGH, HIGH}};
        for (int[] r : wrong) {
            due("rectangle(wrong)", desk.rectangle(r[0], r[1], r[2], r[3]), -1);
        }
        due("rectangle", desk.rectangle(-10000, -10000, 1, 1), 1);
        due("rectangle", desk.rectangle(10000, 10000, 10000, 10000), 2);
        due("rectangle", desk.rectangle(0, 0, 1, 1), 3);
        due("rectangle", desk.rectangle(0, 0, 1, 1), 4);
        due("rectangle", desk.rectangle(0, 0, 1, 1), -1);
        due("count(6)", desk.count(6), 4);
        due("count(5)", desk.count(5), 1);
        desk.rescreen();
        due("rectangle", desk.rectangle(0, 0, 1, 1), 1);
    }

    /** Promise 15. */
    static void p15Rescreen() {
        PaneDesk desk = screens(3);
        desk.view(2, false);
        desk.view(6, false);
        dueScreens(desk, 2, 0, 1);
        dueHidden(desk, 2, 3, 4, 5, 7, 8);
        due("rescreen()", desk.rescreen(), false);
        for (int i = 0; i < 4; i++) {
            desk.rectangle(i, 2 * i, 3 + i, 4 + i);
        }
        due("rescreen()", desk.rescreen(), true);
        due("count(6)", desk.count(6), 0);
        dueScreens(desk, 0, 1, 2, 3);
        due("workspace(0, 0)", desk.workspace(0, 0), 6);
        int[] workspaces = {6, 0, 1, 2};
        for (int i = 0; i < 4; i++) {
            due("workspace(1, i)", desk.workspace(1, i), workspaces[i]);
            due("screen(i, 0)", desk.screen(i, 0), i);
            due("screen(i, 1)", desk.screen(i, 1), 2 * i);
            due("screen(i, 2)", desk.screen(i, 2), 3 + i);
            due("screen(i, 3)", desk.screen(i, 3), 4 + i);
        }
        dueHidden(desk, 3, 4, 5, 7, 8);
        desk.rectangle(9, 9, 9, 9);
        due("rescreen()", desk.rescreen(), true);
        dueScreens(desk, 0);
        dueHidden(desk, 0, 1, 2, 3, 4, 5, 7, 8);
        int kept = desk.count(4);
        desk.rectangle(9, 9, 9, 9);
        due("rescreen() to the same", desk.rescreen(), false);
        due("count(4)", desk.count(4), kept);
        due("count(6)", desk.count(6), 0);
        due("click(3, 6), where a screen was", desk.click(3, 6), false);
        int[][] oneSideEach = {{8, 9, 9, 9}, {8, 8, 9, 9}, {8, 8, 8, 9}, {8, 8, 8, 8}};
        for (int[] r : oneSideEach) {
            desk.rectangle(r[0], r[1], r[2], r[3]);
            due("rescreen(), one side another", desk.rescreen(), true);
        }
    }

    /** Promise 16. */
    static void p16Undo() {
        PaneDesk desk = new PaneDesk();
        due("undo()", desk.undo(), -1);
        long[] sums = new long[12];
        boolean told = true;
        for (int i = 0; i < 12; i++) {
            sums[i] = desk.sum();
            told &= eventNumber(desk, i);
        }
        due("every event", told, true);
        desk.rectangle(1, 2, 3, 4);
        for (int i = 11; i >= 0; i--) {
            due("undo()", desk.undo(), i);
            due("sum()", desk.sum(), sums[i]);
        }
        due("undo()", desk.undo(), -1);
        due("count(6)", desk.count(6), 1);
        due("count(0)", desk.count(0), 0);
        due("open()", desk.open(), 0);
    }

    private static boolean eventNumber(PaneDesk desk, int number) {
        switch (number) {
            case 0: return desk.open() == 0;
            case 1: return desk.open() == 1;
            case 2: return desk.move(1);
            case 3: return desk.move(3);
            case 4: return desk.lift(1, 1, 2, 3, 4);
            case 5: return desk.shift(4);
            case 6: return desk.layout(3);
            case 7: return desk.shape(2, 300);
            case 8: desk.rectangle(0, 0, 5, 5); desk.rectangle(5, 0, 5, 5); return desk.rescreen();
            case 9: return desk.view(1, true);
            case 10: return desk.sink(1);
            default: return desk.close(1);
        }
    }

    /** Promise 16, the latest 40. */
    static void p16LatestForty() {
        PaneDesk desk = with(45);
        due("count(4)", desk.count(4), 40);
        for (int i = 39; i >= 0; i--) {
            due("undo()", desk.undo(), i);
        }
        due("undo()", desk.undo(), -1);
        due("count(0)", desk.count(0), 5);
        due("count(5)", desk.count(5), 40);
        for (int i = 1; i <= 40; i++) {
            due("redo()", desk.redo(), i);
        }
        due("redo()", desk.redo(), -1);
        due("count(0)", desk.count(0), 45);
        due("open()", desk.open(), 45);
        due("count(4)", desk.count(4), 40);
        for (int i = 0; i < 40; i++) {
            desk.undo();
        }
        due("count(0)", desk.count(0), 6);
    }

    /** Promise 17. */
    static void p17Redo() {
        PaneDesk desk = new PaneDesk();
        due("redo()", desk.redo(), -1);
        long[] sums = new long[13];
        for (int i = 0; i < 12; i++) {
            eventNumber(desk, i);
            sums[i + 1] = desk.sum();
        }
        due("redo()", desk.redo(), -1);
        for (int i = 0; i < 12; i++) {
            desk.undo();
        }
        for (int i = 1; i <= 8; i++) {
            due("redo()", desk.redo(), i);
            due("sum()", desk.sum(), sums[i]);
        }
        due("move(9)", desk.move(9), false);
        due("layout(3)", desk.layout(3), false);
        due("count(5)", desk.count(5), 4);
        due("redo()", desk.redo(), 9);
        due("layout(4)", desk.layout(4), true);
        due("count(5)", desk.count(5), 0);
        due("redo()", desk.redo(), -1);
        due("undo()", desk.undo(), 9);
        due("sum()", desk.sum(), sums[9]);
        due("redo()", desk.redo(), 10);
        due("row(0, 3)", desk.row(0, 3), 4);
    }

    // ---- what is told

    /** Promises 18 and 19. */
    static void p18WorkspaceAndScreen() {
        PaneDesk desk = screens(3);
        desk.view(1, false);
        for (int k : new int[] {0, 5, -1, LOW, HIGH}) {
            due("workspace(0, k)", desk.workspace(0, k), 1);
        }
        for (int k = 0; k < 3; k++) {
            due("workspace(1, k)", desk.workspace(1, k), k);
        }
        due("workspace(2, 0)", desk.workspace(2, 0), 0);
        due("workspace(2, 1)", desk.workspace(2, 1), 2);
        due("workspace(3, 5)", desk.workspace(3, 5), 8);
        int[][] wrong = {{1, 3}, {1, -1}, {2, 2}, {2, -1}, {3, 6}, {3, -1}, {4, 0}, {-1, 0}, {LOW, 0}, {1, HIGH}, {2, LOW}};
        for (int[] pair : wrong) {
            due("workspace(wrong)", desk.workspace(pair[0], pair[1]), -1);
        }
        dueScreens(desk, 1, 0, 2);
        due("screen(2, 0)", desk.screen(2, 0), 200);
        due("screen(2, 2)", desk.screen(2, 2), 100);
        for (int[] pair : new int[][] {{3, 0}, {-1, 0}, {0, 5}, {0, -1}, {LOW, 0}, {HIGH, 4}, {3, 4}, {0, LOW}}) {
            due("screen(wrong)", desk.screen(pair[0], pair[1]), NOWHERE);
        }
    }

    /** Promise 20. */
    static void p20Count() {
        PaneDesk desk = screens(3);
        desk.open();
        desk.open();
        desk.lift(0, 1, 1, 1, 1);
        desk.view(5, false);
        desk.undo();
        desk.rectangle(0, 0, 1, 1);
        desk.rectangle(0, 0, 1, 1);
        int[] dues = {2, 3, 6, 1, 4, 1, 2};
        for (int what = 0; what < 7; what++) {
            due("count(" + what + ")", desk.count(what), dues[what]);
        }
        for (int wrong : new int[] {7, -1, LOW, HIGH}) {
            due("count(wrong)", desk.count(wrong), -1);
        }
    }

    /** Promise 21. */
    static void p21Row() {
        PaneDesk desk = screens(3);
        desk.view(2, false);
        for (int i = 0; i < 3; i++) {
            desk.open();
        }
        desk.move(1);
        desk.lift(0, 1, 1, 1, 1);
        desk.layout(4);
        desk.shape(7, 77);
        int[] dues = {3, 1, 1, 4, 7, 77, 2, 2};
        int[] empty = {0, -1, -1, 0, 1, 500, 0, -1};
        for (int what = 0; what < 8; what++) {
            due("row(2, " + what + ")", desk.row(2, what), dues[what]);
            due("row(8, " + what + ")", desk.row(8, what), empty[what]);
            due("row(9, " + what + ")", desk.row(9, what), -1);
            due("row(-1, " + what + ")", desk.row(-1, what), -1);
        }
        due("row(0, 7)", desk.row(0, 7), 0);
        for (int wrong : new int[] {8, -1, LOW, HIGH}) {
            due("row(2, wrong)", desk.row(2, wrong), -1);
            due("row(wrong, 0)", desk.row(wrong == 8 ? 9 : wrong, 0), -1);
        }
    }

    /** Promise 22. */
    static void p22Window() {
        PaneDesk desk = with(3);
        dueOrder(desk, 0, 2, 2, 1, 0);
        for (int[] wrong : new int[][] {{0, 3}, {0, -1}, {1, 0}, {9, 0}, {-1, 0}, {LOW, 0}, {0, HIGH}, {0, LOW}}) {
            due("window(wrong)", desk.window(wrong[0], wrong[1]), -1);
        }
    }

    /** Promise 23. */
    static void p23Place() {
        PaneDesk desk = with(3);
        desk.lift(1, 10, 20, 30, 40);
        desk.shift(6);
        int[] floats = {0, 0, 1, 10, 20, 30, 40};
        int[] tile = {6, 0, 0, 0, 0, 0, 0};
        for (int what = 0; what < 7; what++) {
            due("place(1, " + what + ")", desk.place(1, what), floats[what]);
            due("place(2, " + what + ")", desk.place(2, what), tile[what]);
            due("place(3, " + what + ")", desk.place(3, what), -1);
        }
        due("place(0, 1)", desk.place(0, 1), 1);
        for (int[] wrong : new int[][] {{0, 7}, {0, -1}, {60, 0}, {-1, 0}, {LOW, 3}, {HIGH, 3}, {0, LOW}, {0, HIGH}}) {
            due("place(wrong)", desk.place(wrong[0], wrong[1]), -1);
        }
    }

    /** Promise 24, TALL. */
    static void p24ShownTall() {
        PaneDesk desk = sized(4, 101, 100);
        desk.shape(1, 333);
        dueBox(desk, 3, 10, 20, 33, 100);
        dueBox(desk, 2, 43, 20, 68, 33);
        dueBox(desk, 1, 43, 53, 68, 33);
        dueBox(desk, 0, 43, 86, 68, 34);
        desk.shape(3, 0);
        dueBox(desk, 1, 10, 86, 1, 34);
        dueBox(desk, 0, 11, 20, 100, 100);
        desk.shape(1, 1000);
        dueBox(desk, 3, 10, 20, 100, 100);
        dueBox(desk, 0, 110, 86, 1, 34);
        desk.shape(4, 500);
        dueBox(desk, 3, 10, 20, 101, 25);
        dueBox(desk, 0, 10, 95, 101, 25);
        desk.shape(0, 500);
        dueBox(desk, 2, 10, 45, 101, 25);
        PaneDesk thin = sized(2, 1, 5);
        dueBox(thin, 1, 10, 20, 1, 5);
        dueBox(thin, 0, 11, 20, 0, 5);
        PaneDesk low = sized(4, 6, 6);
        low.shape(0, 0);
        dueBox(low, 3, 10, 20, 6, 1);
        dueBox(low, 2, 10, 21, 6, 1);
        dueBox(low, 1, 10, 22, 6, 2);
        dueBox(low, 0, 10, 24, 6, 2);
        low.view(1, false);
        dueNotShown(low, 0);
        for (int[] wrong : new int[][] {{0, 4}, {0, -1}, {4, 0}, {-1, 0}, {60, 0}, {LOW, 0}, {0, HIGH}}) {
            due("shown(wrong)", desk.shown(wrong[0], wrong[1]), NOWHERE);
        }
    }

    /** Promise 24, WIDE. */
    static void p24ShownWide() {
        PaneDesk desk = sized(4, 100, 101);
        desk.layout(1);
        desk.shape(1, 333);
        dueBox(desk, 3, 10, 20, 100, 33);
        dueBox(desk, 2, 10, 53, 33, 68);
        dueBox(desk, 1, 43, 53, 33, 68);
        dueBox(desk, 0, 76, 53, 34, 68);
        PaneDesk low = sized(2, 5, 1);
        low.layout(1);
        dueBox(low, 1, 10, 20, 5, 1);
        dueBox(low, 0, 10, 21, 5, 0);
    }

    /** Promise 24, FULL. */
    static void p24ShownFull() {
        PaneDesk desk = sized(3, 50, 60);
        desk.layout(2);
        dueBox(desk, 2, 10, 20, 50, 60);
        dueNotShown(desk, 1);
        desk.move(0);
        dueBox(desk, 0, 10, 20, 50, 60);
        dueNotShown(desk, 2);
        desk.lift(0, 0, 0, 500, 500);
        dueBox(desk, 0, 10, 20, 25, 30);
        dueBox(desk, 2, 10, 20, 50, 60);
        dueNotShown(desk, 1);
        due("at(10, 20)", desk.at(10, 20), 0);
        due("at(35, 20)", desk.at(35, 20), 2);
        desk.lift(1, 0, 0, 500, 500);
        desk.lift(2, 0, 0, 500, 500);
        due("at(35, 20)", desk.at(35, 20), -1);
    }

    /** Promise 24, GRID. */
    static void p24ShownGrid() {
        PaneDesk desk = sized(7, 100, 100);
        desk.layout(3);
        dueBox(desk, 6, 10, 20, 33, 50);
        dueBox(desk, 5, 10, 70, 33, 50);
        dueBox(desk, 4, 43, 20, 33, 50);
        dueBox(desk, 3, 43, 70, 33, 50);
        dueBox(desk, 2, 76, 20, 34, 33);
        dueBox(desk, 1, 76, 53, 34, 33);
        dueBox(desk, 0, 76, 86, 34, 34);
        PaneDesk four = sized(4, 100, 100);
        four.layout(3);
        dueBox(four, 3, 10, 20, 50, 50);
        dueBox(four, 0, 60, 70, 50, 50);
        PaneDesk one = sized(1, 100, 100);
        one.layout(3);
        dueBox(one, 0, 10, 20, 100, 100);
    }

    /** Promise 24, BALANCED. */
    static void p24ShownBalanced() {
        PaneDesk desk = sized(5, 100, 100);
        desk.layout(4);
        dueBox(desk, 4, 10, 20, 60, 33);
        dueBox(desk, 3, 10, 53, 60, 33);
        dueBox(desk, 2, 10, 86, 60, 34);
        dueBox(desk, 1, 70, 20, 40, 50);
        dueBox(desk, 0, 70, 70, 40, 50);
        PaneDesk high = sized(2, 50, 101);
        high.layout(4);
        dueBox(high, 1, 10, 20, 50, 50);
        dueBox(high, 0, 10, 70, 50, 51);
    }

    /** Promise 24, MIDDLE. */
    static void p24ShownMiddle() {
        PaneDesk desk = sized(4, 101, 90);
        desk.layout(5);
        dueBox(desk, 3, 35, 20, 50, 90);
        dueBox(desk, 2, 85, 20, 26, 45);
        dueBox(desk, 1, 85, 65, 26, 45);
        dueBox(desk, 0, 10, 20, 25, 90);
        desk.shape(2, 1000);
        dueBox(desk, 3, 11, 20, 99, 45);
        dueBox(desk, 1, 110, 20, 1, 90);
        dueBox(desk, 0, 10, 20, 1, 90);
        desk.shape(2, 0);
        dueBox(desk, 2, 60, 65, 1, 45);
        desk.shape(3, 500);
        dueBox(desk, 1, 10, 80, 50, 30);
        dueBox(desk, 0, 60, 20, 51, 90);
        desk.shape(4, 500);
        dueBox(desk, 3, 10, 20, 101, 22);
        desk.shape(0, 500);
        dueBox(desk, 3, 10, 20, 101, 22);
        PaneDesk six = sized(6, 90, 90);
        six.layout(5);
        dueBox(six, 2, 77, 80, 23, 30);
        dueBox(six, 1, 10, 20, 22, 45);
        dueBox(six, 0, 10, 65, 22, 45);
        PaneDesk thin = sized(3, 2, 9);
        thin.layout(5);
        dueBox(thin, 2, 10, 20, 1, 9);
        dueBox(thin, 1, 11, 20, 1, 4);
        dueBox(thin, 0, 11, 24, 1, 5);
        PaneDesk three = sized(3, 3, 9);
        three.layout(5);
        dueBox(three, 2, 11, 20, 1, 9);
        dueBox(three, 1, 12, 20, 1, 9);
        dueBox(three, 0, 10, 20, 1, 9);
    }

    /** Promise 24, floating. */
    static void p24ShownFloating() {
        PaneDesk desk = sized(2, 333, 77);
        desk.lift(0, 500, 999, 1000, 13);
        dueBox(desk, 0, 176, 96, 333, 1);
        dueBox(desk, 1, 10, 20, 333, 77);
        PaneDesk left = with(1);
        left.rectangle(-100, -50, 10, 10);
        left.rescreen();
        left.lift(0, 150, 250, 350, 0);
        dueBox(left, 0, -99, -48, 3, 0);
    }

    /** Promise 25. */
    static void p25At() {
        PaneDesk desk = sized(4, 100, 100);
        due("at(10, 20)", desk.at(10, 20), 3);
        due("at(59, 119)", desk.at(59, 119), 3);
        due("at(60, 20)", desk.at(60, 20), 2);
        due("at(109, 119)", desk.at(109, 119), 0);
        for (int[] off : new int[][] {{9, 20}, {10, 19}, {110, 20}, {10, 120}, {LOW, HIGH}, {HIGH, LOW}}) {
            due("at(off)", desk.at(off[0], off[1]), -1);
        }
        desk.lift(0, 0, 0, 1000, 1000);
        desk.lift(2, 0, 0, 500, 500);
        due("at(10, 20), first in order", desk.at(10, 20), 2);
        due("at(60, 20)", desk.at(60, 20), 0);
        desk.focus(0);
        due("at(10, 20), the focus", desk.at(10, 20), 0);
        desk.focus(1);
        desk.lift(3, 0, 0, 100, 100);
        due("at(10, 20), first in order", desk.at(10, 20), 3);
        desk.undo();
        desk.focus(2);
        due("at(10, 20)", desk.at(10, 20), 2);
        due("at(80, 20), the focus is not there", desk.at(80, 20), 0);
        desk.view(1, false);
        due("at(10, 20)", desk.at(10, 20), -1);
        overlappingScreens();
    }

    private static void overlappingScreens() {
        PaneDesk desk = with(1);
        desk.rectangle(0, 0, 10, 10);
        desk.rectangle(5, 0, 10, 10);
        desk.rescreen();
        desk.view(1, false);
        desk.open();
        due("at(9, 9), the least screen", desk.at(9, 9), 0);
        due("at(10, 9)", desk.at(10, 9), 1);
        desk.close(0);
        due("at(9, 9), the least screen", desk.at(9, 9), -1);
        desk.lift(1, 0, 0, 1000, 1000);
        due("at(9, 9), the least screen", desk.at(9, 9), -1);
        desk.lift(1, 500, 500, 1000, 1000);
        due("at(14, 9)", desk.at(14, 9), 1);
        due("at(15, 9), off the screen", desk.at(15, 9), -1);
    }

    /** Promise 26. */
    static void p26Sum() {
        PaneDesk desk = new PaneDesk();
        long due = summed(7L, 0, 0, 800, 600, 0, 0, 1, 2, 3, 4, 5, 6, 7, 8);
        for (int i = 0; i < 9; i++) {
            due = summed(due, 0, 1, 500, -1);
        }
        due("sum()", desk.sum(), due);
        desk.open();
        desk.open();
        desk.layout(3);
        desk.lift(1, 10, 20, 30, 40);
        desk.lift(0, 1, 2, 3, 4);
        desk.rectangle(-5, -6, 7, 8);
        desk.rectangle(1, 2, 3, 4);
        desk.rescreen();
        desk.move(1);
        desk.view(1, false);
        due = summed(7L, -5, -6, 7, 8, 0, 1, 2, 3, 4, 1, 1, 0, 2, 3, 4, 5, 6, 7, 8, 3, 1, 500, 1, 1, 0);
        for (int i = 1; i < 9; i++) {
            due = summed(due, 0, 1, 500, -1);
        }
        due = summed(due, 0, 1, 2, 3, 4, 1, 10, 20, 30, 40);
        due("sum()", desk.sum(), due);
    }
}
