import java.util.ArrayList;
import java.util.List;
import java.util.Random;

/** Runs of calls, drawn with fixed seeds, asked of PaneDesk and of DeskModel alike. */
public final class ModelTest {
    private static final Checks CHECKS = new Checks();
    private static final int[] ODD = {-1, -2, Integer.MIN_VALUE, Integer.MAX_VALUE, 9, 60, 61, 1001, 64, 4, 7};

    private final Random random;
    private final PaneDesk desk = new PaneDesk();
    private final DeskModel model = new DeskModel();
    private final int span;
    private final List<String> calls = new ArrayList<>();

    private ModelTest(long seed, int span) {
        random = new Random(seed);
        this.span = span;
    }

    public static void main(String[] args) {
        int[] spans = {1, 2, 3, 5, 12, 40, 800, 10000};
        for (int seed = 0; seed < 400 && CHECKS.wrong() == 0; seed++) {
            CHECKS.topic("seed " + seed);
            new ModelTest(seed, spans[seed % spans.length]).run(seed % 3 == 0);
        }
        CHECKS.end();
    }

    private void run(boolean crowded) {
        for (int i = 0; crowded && i < 45; i++) {
            due("open()", desk.open(), model.open());
        }
        for (int i = 0; i < 260 && CHECKS.wrong() == 0; i++) {
            event();
            CHECKS.due("sum()", desk.sum(), model.sum());
            if (i % 8 == 0) {
                askAll();
            }
        }
        if (CHECKS.wrong() > 0) {
            System.out.println("the run's events: " + String.join("; ", calls));
        }
    }

    private void due(String call, long got, long want) {
        calls.add(call + " -> " + got);
        CHECKS.due(call, got, want);
    }

    private void due(String call, boolean got, boolean want) {
        due(call, got ? 1L : 0L, want ? 1L : 0L);
    }

    /** A number of 0 .. below - 1, now and then another one. */
    private int some(int below) {
        return random.nextInt(25) == 0 ? ODD[random.nextInt(ODD.length)] : random.nextInt(below);
    }

    private int someWindow() {
        int there = desk.count(0);
        return some(there > 0 && random.nextInt(4) > 0 ? there : 60);
    }

    /** A point near a screen or a window's corner. */
    private int somePoint(int what) {
        int near = random.nextBoolean() ? desk.screen(random.nextInt(4), what) : desk.shown(someWindow(), what);
        int width = random.nextBoolean() ? desk.screen(0, what + 2) : random.nextInt(span + 2);
        return random.nextInt(20) == 0 ? some(10) : near + (random.nextBoolean() ? width : 0) + random.nextInt(3) - 1;
    }

    private int someShare() {
        return random.nextInt(4) == 0 ? (random.nextBoolean() ? 0 : 1000) : some(1001);
    }

    private void event() {
        switch (random.nextInt(22)) {
            case 0:
            case 1:
            case 2: due("open()", desk.open(), model.open()); break;
            case 3: closeOne(); break;
            case 4:
            case 5:
            case 6: moveOne(); break;
            case 7:
            case 8: viewOne(); break;
            case 9: shiftOne(); break;
            case 10: sendOne(); break;
            case 11: focusOne(); break;
            case 12:
            case 13: clickOne(); break;
            case 14: liftOne(); break;
            case 15: sinkOne(); break;
            case 16: layoutOne(); break;
            case 17: shapeOne(); break;
            case 18: rectangleOne(); break;
            case 19: due("rescreen()", desk.rescreen(), model.rescreen()); break;
            case 20: undoSome(); break;
            default: redoSome(); break;
        }
    }

    private void closeOne() {
        int w = someWindow();
        due("close(" + w + ")", desk.close(w), model.close(w));
    }

    private void moveOne() {
        int what = some(7);
        due("move(" + what + ")", desk.move(what), model.move(what));
    }

    private void viewOne() {
        int n = some(9);
        boolean greedy = random.nextBoolean();
        due("view(" + n + ", " + greedy + ")", desk.view(n, greedy), model.view(n, greedy));
    }

    private void shiftOne() {
        int n = some(9);
        due("shift(" + n + ")", desk.shift(n), model.shift(n));
    }

    private void sendOne() {
        int w = someWindow();
        int n = some(9);
        due("send(" + w + ", " + n + ")", desk.send(w, n), model.send(w, n));
    }

    private void focusOne() {
        int w = someWindow();
        due("focus(" + w + ")", desk.focus(w), model.focus(w));
    }

    private void clickOne() {
        int x = somePoint(0);
        int y = somePoint(1);
        due("click(" + x + ", " + y + ")", desk.click(x, y), model.click(x, y));
    }

    private void liftOne() {
        int w = someWindow();
        int a = someShare();
        int b = someShare();
        int c = someShare();
        int d = someShare();
        due("lift(" + w + ", " + a + ", " + b + ", " + c + ", " + d + ")",
            desk.lift(w, a, b, c, d), model.lift(w, a, b, c, d));
    }

    private void sinkOne() {
        int w = someWindow();
        due("sink(" + w + ")", desk.sink(w), model.sink(w));
    }

    private void layoutOne() {
        int kind = some(6);
        due("layout(" + kind + ")", desk.layout(kind), model.layout(kind));
    }

    private void shapeOne() {
        int m = some(random.nextBoolean() ? 4 : 61);
        int p = someShare();
        due("shape(" + m + ", " + p + ")", desk.shape(m, p), model.shape(m, p));
    }

    private void rectangleOne() {
        for (int i = random.nextInt(5); i >= 0; i--) {
            int x = random.nextInt(2 * span + 1) - span;
            int y = random.nextInt(2 * span + 1) - span;
            int w = random.nextInt(20) == 0 ? random.nextInt(3) - 1 : 1 + random.nextInt(span);
            int h = random.nextInt(20) == 0 ? 9999 + random.nextInt(3) : 1 + random.nextInt(span);
            due("rectangle(" + x + ", " + y + ", " + w + ", " + h + ")",
                desk.rectangle(x, y, w, h), model.rectangle(x, y, w, h));
        }
    }

    private void undoSome() {
        for (int i = random.nextInt(random.nextInt(4) == 0 ? 45 : 4); i >= 0; i--) {
            due("undo()", desk.undo(), model.undo());
        }
    }

    private void redoSome() {
        for (int i = random.nextInt(random.nextInt(4) == 0 ? 45 : 4); i >= 0; i--) {
            due("redo()", desk.redo(), model.redo());
        }
    }

    private void askAll() {
        for (int what = -1; what < 9; what++) {
            CHECKS.due("count(" + what + ")", desk.count(what), model.count(what));
            for (int k = -1; k < 10; k++) {
                CHECKS.due("workspace(" + what + ", " + k + ")", desk.workspace(what, k), model.workspace(what, k));
                CHECKS.due("screen(" + k + ", " + what + ")", desk.screen(k, what), model.screen(k, what));
                CHECKS.due("row(" + k + ", " + what + ")", desk.row(k, what), model.row(k, what));
                CHECKS.due("window(" + k + ", " + what + ")", desk.window(k, what), model.window(k, what));
            }
        }
        for (int w = -1; w < 61; w++) {
            for (int what = -1; what < 8; what++) {
                CHECKS.due("place(" + w + ", " + what + ")", desk.place(w, what), model.place(w, what));
            }
            for (int what = -1; what < 5; what++) {
                CHECKS.due("shown(" + w + ", " + what + ")", desk.shown(w, what), model.shown(w, what));
            }
        }
        for (int i = 0; i < 20; i++) {
            int x = somePoint(0);
            int y = somePoint(1);
            CHECKS.due("at(" + x + ", " + y + ")", desk.at(x, y), model.at(x, y));
        }
    }
}
