import java.util.ArrayList;
import java.util.Collections;
import java.util.HashMap;
import java.util.LinkedHashMap;
import java.util.List;
import java.util.Map;
import java.util.TreeMap;

/**
 * The document once more, told with lists and in the way of xmonad's StackSet: a focus with what is
 * above and below it, whole layouts at once, a copy of all for each event. It shares no code and no
 * way of holding things with PaneDesk, so that both can be asked the same.
 */
final class DeskModel {
    /** A row: the focus, those above it from the nearest one on, those below it likewise. */
    static final class Stack {
        int focus;
        List<Integer> above = new ArrayList<>();
        List<Integer> below = new ArrayList<>();

        Stack copy() {
            Stack s = new Stack();
            s.focus = focus;
            s.above = new ArrayList<>(above);
            s.below = new ArrayList<>(below);
            return s;
        }

        List<Integer> order() {
            List<Integer> all = new ArrayList<>(above);
            Collections.reverse(all);
            all.add(focus);
            all.addAll(below);
            return all;
        }

        void flip() {
            List<Integer> old = above;
            above = below;
            below = old;
        }

        void focusUp() {
            if (!above.isEmpty()) {
                below.add(0, focus);
                focus = above.remove(0);
            } else if (!below.isEmpty()) {
                List<Integer> all = order();
                focus = all.remove(all.size() - 1);
                Collections.reverse(all);
                above = all;
                below = new ArrayList<>();
            }
        }

        void swapUp() {
            if (!above.isEmpty()) {
                below.add(0, above.remove(0));
            } else {
                above = below;
                Collections.reverse(above);
                below = new ArrayList<>();
            }
        }

        void swapMaster() {
            if (above.isEmpty()) {
                return;
            }
            List<Integer> others = new ArrayList<>(above);
            Collections.reverse(others);
            int first = others.remove(0);
            others.add(first);
            others.addAll(below);
            above = new ArrayList<>();
            below = others;
        }

        void shiftMaster() {
            List<Integer> others = order();
            others.remove(Integer.valueOf(focus));
            above = new ArrayList<>();
            below = others;
        }
    }

    static final class Space {
        Stack stack;
        int kind = 0;
        int masters = 1;
        int part = 500;

        Space copy() {
            Space s = new Space();
            s.stack = stack == null ? null : stack.copy();
            s.kind = kind;
            s.masters = masters;
            s.part = part;
            return s;
        }

        List<Integer> order() {
            return stack == null ? new ArrayList<>() : stack.order();
        }
    }

    static final class Screen {
        int number;
        int workspace;
        int[] box;

        Screen(int number, int workspace, int[] box) {
            this.number = number;
            this.workspace = workspace;
            this.box = box.clone();
        }

        Screen copy() {
            return new Screen(number, workspace, box);
        }
    }

    static final class State {
        Screen current = new Screen(0, 0, new int[] {0, 0, 800, 600});
        List<Screen> visible = new ArrayList<>();
        List<Integer> hidden = new ArrayList<>(List.of(1, 2, 3, 4, 5, 6, 7, 8));
        List<Space> spaces = new ArrayList<>();
        TreeMap<Integer, int[]> floating = new TreeMap<>();

        State copy() {
            State s = new State();
            s.current = current.copy();
            for (Screen v : visible) {
                s.visible.add(v.copy());
            }
            s.hidden = new ArrayList<>(hidden);
            for (Space w : spaces) {
                s.spaces.add(w.copy());
            }
            for (Map.Entry<Integer, int[]> f : floating.entrySet()) {
                s.floating.put(f.getKey(), f.getValue().clone());
            }
            return s;
        }

        /** A text that is the same for two states if and only if they are the same. */
        String text() {
            StringBuilder b = new StringBuilder();
            List<Screen> all = new ArrayList<>(List.of(current));
            all.addAll(visible);
            for (Screen s : all) {
                b.append(s.number).append(':').append(s.workspace).append(java.util.Arrays.toString(s.box));
            }
            b.append(hidden);
            for (Space w : spaces) {
                b.append('|').append(w.kind).append(',').append(w.masters).append(',').append(w.part);
                if (w.stack != null) {
                    b.append(w.stack.focus).append(w.stack.above).append(w.stack.below);
                }
            }
            for (Map.Entry<Integer, int[]> f : floating.entrySet()) {
                b.append(f.getKey()).append(java.util.Arrays.toString(f.getValue()));
            }
            return b.toString();
        }
    }

    private State now = new State();
    private State ahead;
    private final List<State> past = new ArrayList<>();
    private final List<State> future = new ArrayList<>();
    private final List<int[]> waiting = new ArrayList<>();

    DeskModel() {
        for (int i = 0; i < 9; i++) {
            now.spaces.add(new Space());
        }
    }

    private void start() {
        ahead = now.copy();
    }

    private boolean told() {
        if (ahead.text().equals(now.text())) {
            return false;
        }
        past.add(ahead);
        if (past.size() > 40) {
            past.remove(0);
        }
        future.clear();
        return true;
    }

    // ---- the terms

    private int home(int window) {
        for (int i = 0; i < 9; i++) {
            if (now.spaces.get(i).order().contains(window)) {
                return i;
            }
        }
        return -1;
    }

    private Space here() {
        return now.spaces.get(now.current.workspace);
    }

    private static void insert(Space space, int window) {
        Stack s = new Stack();
        s.focus = window;
        if (space.stack != null) {
            s.above = space.stack.above;
            s.below = space.stack.below;
            s.below.add(0, space.stack.focus);
        }
        space.stack = s;
    }

    private static void remove(Space space, int window) {
        Stack s = space.stack;
        if (s.focus != window) {
            s.above.remove(Integer.valueOf(window));
            s.below.remove(Integer.valueOf(window));
        } else if (!s.below.isEmpty()) {
            s.focus = s.below.remove(0);
        } else if (!s.above.isEmpty()) {
            s.focus = s.above.remove(0);
        } else {
            space.stack = null;
        }
    }

    private void viewed(int n) {
        if (now.current.workspace == n) {
            return;
        }
        for (Screen v : now.visible) {
            if (v.workspace == n) {
                now.visible.remove(v);
                now.visible.add(0, now.current);
                now.current = v;
                return;
            }
        }
        now.hidden.remove(Integer.valueOf(n));
        now.hidden.add(0, now.current.workspace);
        now.current.workspace = n;
    }

    private void viewedGreedily(int n) {
        for (Screen v : now.visible) {
            if (v.workspace == n) {
                v.workspace = now.current.workspace;
                now.current.workspace = n;
                now.visible.remove(v);
                now.visible.add(0, v);
                return;
            }
        }
        viewed(n);
    }

    private void shifted(int window, int n) {
        int f = home(window);
        if (f == n) {
            return;
        }
        int c = now.current.workspace;
        viewed(f);
        remove(here(), window);
        viewed(c);
        viewed(n);
        insert(here(), window);
        viewed(c);
    }

    private void focused(int window) {
        if (here().stack != null && here().stack.focus == window) {
            return;
        }
        viewed(home(window));
        while (here().stack.focus != window) {
            here().stack.focusUp();
        }
    }

    private List<Screen> byNumber() {
        List<Screen> all = new ArrayList<>(now.visible);
        all.add(now.current);
        all.sort((a, b) -> Integer.compare(a.number, b.number));
        return all;
    }

    // ---- the layouts

    private static int[] box(int x, int y, int w, int h) {
        return new int[] {x, y, w, h};
    }

    private static int[] turned(int[] b) {
        return box(b[1], b[0], b[3], b[2]);
    }

    private static List<int[]> allTurned(List<int[]> boxes) {
        List<int[]> out = new ArrayList<>();
        for (int[] b : boxes) {
            out.add(turned(b));
        }
        return out;
    }

    static List<int[]> stacked(int k, int[] b) {
        List<int[]> out = new ArrayList<>();
        if (k == 0) {
            return out;
        }
        if (k == 1) {
            out.add(b);
            return out;
        }
        int first = b[3] / k;
        out.add(box(b[0], b[1], b[2], first));
        out.addAll(stacked(k - 1, box(b[0], b[1] + first, b[2], b[3] - first)));
        return out;
    }

    static List<int[]> linedUp(int k, int[] b) {
        return allTurned(stacked(k, turned(b)));
    }

    static List<int[]> tall(int n, int m, int p, int[] b) {
        if (n <= m || m == 0) {
            return stacked(n, b);
        }
        int left = b[2] * p / 1000;
        if (left > b[2] - 1) {
            left = b[2] - 1;
        }
        if (left < 1) {
            left = 1;
        }
        List<int[]> out = new ArrayList<>(stacked(m, box(b[0], b[1], left, b[3])));
        out.addAll(stacked(n - m, box(b[0] + left, b[1], b[2] - left, b[3])));
        return out;
    }

    static List<int[]> grid(int n, int[] b) {
        int c = 0;
        while (c * c < n) {
            c++;
        }
        List<int[]> columns = linedUp(c, b);
        List<int[]> out = new ArrayList<>();
        for (int i = 0; i < c; i++) {
            out.addAll(stacked((i + 1) * n / c - i * n / c, columns.get(i)));
        }
        return out;
    }

    static List<int[]> balanced(int n, int[] b) {
        List<int[]> out = new ArrayList<>();
        if (n == 0) {
            return out;
        }
        if (n == 1) {
            out.add(b);
            return out;
        }
        int a = (n + 1) / 2;
        if (b[2] >= b[3]) {
            int left = b[2] * a / n;
            out.addAll(balanced(a, box(b[0], b[1], left, b[3])));
            out.addAll(balanced(n - a, box(b[0] + left, b[1], b[2] - left, b[3])));
        } else {
            int top = b[3] * a / n;
            out.addAll(balanced(a, box(b[0], b[1], b[2], top)));
            out.addAll(balanced(n - a, box(b[0], b[1] + top, b[2], b[3] - top)));
        }
        return out;
    }

    static List<int[]> middle(int n, int m, int p, int[] b) {
        if (n <= m || m == 0 || n == m + 1 || b[2] < 3) {
            return tall(n, m, p, b);
        }
        int width = b[2] * p / 1000;
        if (width < 1) {
            width = 1;
        }
        if (width > b[2] - 2) {
            width = b[2] - 2;
        }
        int right = (n - m + 1) / 2;
        int rest = n - m - right;
        int left = (b[2] - width) / 2;
        List<int[]> out = new ArrayList<>(stacked(m, box(b[0] + left, b[1], width, b[3])));
        out.addAll(stacked(right, box(b[0] + left + width, b[1], b[2] - left - width, b[3])));
        out.addAll(stacked(rest, box(b[0], b[1], left, b[3])));
        return out;
    }

    /** Where the windows of a screen are shown: the floating ones first (the focus ahead), then the tiles. */
    private Map<Integer, int[]> boxes(Screen screen) {
        Space space = now.spaces.get(screen.workspace);
        List<Integer> tiles = new ArrayList<>();
        List<Integer> floats = new ArrayList<>();
        for (int w : space.order()) {
            if (!now.floating.containsKey(w)) {
                tiles.add(w);
            } else if (w == space.stack.focus) {
                floats.add(0, w);
            } else {
                floats.add(w);
            }
        }
        Map<Integer, int[]> out = new LinkedHashMap<>();
        int[] b = screen.box;
        for (int w : floats) {
            int[] f = now.floating.get(w);
            out.put(w, box(b[0] + b[2] * f[0] / 1000, b[1] + b[3] * f[1] / 1000, b[2] * f[2] / 1000, b[3] * f[3] / 1000));
        }
        if (space.kind == 2) {
            if (!tiles.isEmpty()) {
                out.put(tiles.contains(space.stack.focus) ? space.stack.focus : tiles.get(0), b);
            }
            return out;
        }
        int n = tiles.size();
        List<int[]> parts;
        switch (space.kind) {
            case 0: parts = tall(n, space.masters, space.part, b); break;
            case 1: parts = allTurned(tall(n, space.masters, space.part, turned(b))); break;
            case 3: parts = grid(n, b); break;
            case 4: parts = balanced(n, b); break;
            default: parts = middle(n, space.masters, space.part, b); break;
        }
        for (int i = 0; i < n; i++) {
            out.put(tiles.get(i), parts.get(i));
        }
        return out;
    }

    private static boolean in(int x, int y, int[] b) {
        return x >= b[0] && y >= b[1] && x < b[0] + b[2] && y < b[1] + b[3];
    }

    private Screen screenAt(int x, int y) {
        for (Screen s : byNumber()) {
            if (in(x, y, s.box)) {
                return s;
            }
        }
        return null;
    }

    // ---- the face

    int open() {
        for (int w = 0; w < 60; w++) {
            if (home(w) < 0) {
                start();
                insert(here(), w);
                told();
                return w;
            }
        }
        return -1;
    }

    boolean close(int window) {
        int home = home(window);
        if (home < 0) {
            return false;
        }
        start();
        remove(now.spaces.get(home), window);
        now.floating.remove(window);
        return told();
    }

    boolean move(int what) {
        Stack s = here().stack;
        if (s == null) {
            return false;
        }
        start();
        switch (what) {
            case 0: s.focusUp(); break;
            case 1: s.flip(); s.focusUp(); s.flip(); break;
            case 2:
                while (!s.above.isEmpty()) {
                    s.focusUp();
                }
                break;
            case 3: s.swapUp(); break;
            case 4: s.flip(); s.swapUp(); s.flip(); break;
            case 5: s.swapMaster(); break;
            case 6: s.shiftMaster(); break;
            default: break;
        }
        return told();
    }

    boolean view(int n, boolean greedy) {
        if (n < 0 || n > 8) {
            return false;
        }
        start();
        if (greedy) {
            viewedGreedily(n);
        } else {
            viewed(n);
        }
        return told();
    }

    boolean shift(int n) {
        if (n < 0 || n > 8 || here().stack == null) {
            return false;
        }
        start();
        shifted(here().stack.focus, n);
        return told();
    }

    boolean send(int window, int n) {
        if (n < 0 || n > 8 || home(window) < 0) {
            return false;
        }
        start();
        shifted(window, n);
        return told();
    }

    boolean focus(int window) {
        if (home(window) < 0) {
            return false;
        }
        start();
        focused(window);
        return told();
    }

    boolean click(int x, int y) {
        int window = at(x, y);
        Screen s = screenAt(x, y);
        start();
        if (window >= 0) {
            focused(window);
        } else if (s != null) {
            viewed(s.workspace);
        }
        return told();
    }

    boolean lift(int window, int a, int b, int c, int d) {
        for (int n : new int[] {a, b, c, d}) {
            if (n < 0 || n > 1000) {
                return false;
            }
        }
        if (home(window) < 0) {
            return false;
        }
        start();
        now.floating.put(window, new int[] {a, b, c, d});
        return told();
    }

    boolean sink(int window) {
        start();
        now.floating.remove(window);
        return told();
    }

    boolean layout(int kind) {
        if (kind < 0 || kind > 5) {
            return false;
        }
        start();
        here().kind = kind;
        return told();
    }

    boolean shape(int masters, int part) {
        if (masters < 0 || masters > 60 || part < 0 || part > 1000) {
            return false;
        }
        start();
        here().masters = masters;
        here().part = part;
        return told();
    }

    int rectangle(int x, int y, int w, int h) {
        boolean fits = x >= -10000 && x <= 10000 && y >= -10000 && y <= 10000
            && w >= 1 && w <= 10000 && h >= 1 && h <= 10000;
        if (!fits || waiting.size() == 4) {
            return -1;
        }
        waiting.add(box(x, y, w, h));
        return waiting.size();
    }

    boolean rescreen() {
        if (waiting.isEmpty()) {
            return false;
        }
        start();
        List<Integer> all = new ArrayList<>(List.of(now.current.workspace));
        for (Screen v : now.visible) {
            all.add(v.workspace);
        }
        all.addAll(now.hidden);
        now.visible.clear();
        for (int i = 0; i < waiting.size(); i++) {
            Screen s = new Screen(i, all.remove(0), waiting.get(i));
            if (i == 0) {
                now.current = s;
            } else {
                now.visible.add(s);
            }
        }
        now.hidden = all;
        waiting.clear();
        return told();
    }

    int undo() {
        if (past.isEmpty()) {
            return -1;
        }
        future.add(now);
        now = past.remove(past.size() - 1);
        return past.size();
    }

    int redo() {
        if (future.isEmpty()) {
            return -1;
        }
        past.add(now);
        now = future.remove(future.size() - 1);
        return past.size();
    }

    private static int pick(List<Integer> row, int k) {
        return k >= 0 && k < row.size() ? row.get(k) : -1;
    }

    int workspace(int what, int k) {
        List<Integer> of = new ArrayList<>();
        switch (what) {
            case 0:
                return now.current.workspace;
            case 1:
                for (Screen s : byNumber()) {
                    of.add(s.workspace);
                }
                return pick(of, k);
            case 2:
                for (Screen s : now.visible) {
                    of.add(s.workspace);
                }
                return pick(of, k);
            case 3:
                return pick(now.hidden, k);
            default:
                return -1;
        }
    }

    int screen(int k, int what) {
        for (Screen s : byNumber()) {
            if (s.number == k && what >= 0 && what < 4) {
                return s.box[what];
            }
            if (s.number == k && what == 4) {
                return s == now.current ? 0 : 1 + now.visible.indexOf(s);
            }
        }
        return -20000;
    }

    int count(int what) {
        int windows = 0;
        for (Space s : now.spaces) {
            windows += s.order().size();
        }
        return pick(List.of(windows, 1 + now.visible.size(), now.hidden.size(), now.floating.size(),
            past.size(), future.size(), waiting.size()), what);
    }

    int row(int workspace, int what) {
        if (workspace < 0 || workspace > 8) {
            return -1;
        }
        Space s = now.spaces.get(workspace);
        int tiles = 0;
        for (int w : s.order()) {
            tiles += now.floating.containsKey(w) ? 0 : 1;
        }
        int on = -1;
        for (Screen c : byNumber()) {
            on = c.workspace == workspace ? c.number : on;
        }
        return pick(List.of(s.order().size(), s.stack == null ? -1 : s.stack.focus,
            s.stack == null ? -1 : s.stack.above.size(), s.kind, s.masters, s.part, tiles, on), what);
    }

    int window(int workspace, int k) {
        return workspace < 0 || workspace > 8 ? -1 : pick(now.spaces.get(workspace).order(), k);
    }

    int place(int window, int what) {
        int home = home(window);
        if (home < 0) {
            return -1;
        }
        int[] f = now.floating.get(window);
        int[] n = f == null ? new int[4] : f;
        return pick(List.of(home, now.spaces.get(home).order().indexOf(window), f == null ? 0 : 1,
            n[0], n[1], n[2], n[3]), what);
    }

    int shown(int window, int what) {
        if (what < 0 || what > 3) {
            return -20000;
        }
        Map<Integer, int[]> all = new HashMap<>();
        for (Screen s : byNumber()) {
            all.putAll(boxes(s));
        }
        return all.containsKey(window) ? all.get(window)[what] : -20000;
    }

    int at(int x, int y) {
        Screen s = screenAt(x, y);
        if (s == null) {
            return -1;
        }
        for (Map.Entry<Integer, int[]> e : boxes(s).entrySet()) {
            if (in(x, y, e.getValue())) {
                return e.getKey();
            }
        }
        return -1;
    }

    long sum() {
        List<Integer> numbers = new ArrayList<>();
        for (Screen s : byNumber()) {
            for (int side : s.box) {
                numbers.add(side);
            }
            numbers.add(s.workspace);
        }
        numbers.add(now.current.number);
        for (Screen s : now.visible) {
            numbers.add(s.number);
        }
        numbers.addAll(now.hidden);
        for (int i = 0; i < 9; i++) {
            Space s = now.spaces.get(i);
            numbers.addAll(List.of(s.kind, s.masters, s.part, row(i, 2)));
            numbers.addAll(s.order());
        }
        for (Map.Entry<Integer, int[]> f : now.floating.entrySet()) {
            numbers.add(f.getKey());
            for (int n : f.getValue()) {
                numbers.add(n);
            }
        }
        long sum = 7;
        for (int n : numbers) {
            sum = sum * 1000003L ^ (long) n;
        }
        return sum;
    }
}
