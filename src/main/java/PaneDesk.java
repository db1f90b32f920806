/**
 * A desk of windows without overlap: workspaces with their rows of windows, on some screens or
 * hidden; layouts that part a screen; windows that float; events that are taken back and done again.
 */
public final class PaneDesk {
    /** There is none. */
    public static final int NONE = -1;

    private static final int NOWHERE = -20000;
    private static final int WORKSPACES = 9;
    private static final int WINDOWS = 60;
    private static final int SCREENS = 4;
    private static final int KEPT = 40;
    private static final int THOUSAND = 1000;
    private static final int FARTHEST = 10000;
    private static final int SIDES = 4;

    private Desk desk;
    private Desk before;
    private final History history;
    private final Box[] waiting;
    private int waits;
    private final Box box;

    public PaneDesk() {
        desk = new Desk();
        before = new Desk();
        history = new History();
        waiting = new Box[SCREENS];
        for (int i = 0; i < SCREENS; i++) {
            waiting[i] = new Box();
        }
        waits = 0;
        box = new Box();
    }

    // ---- events

    public int open() {
        int window = desk.freeWindow();
        if (window == NONE) {
            return NONE;
        }
        begin();
        desk.insert(window, desk.screens.currentWorkspace());
        end();
        return window;
    }

    public boolean close(int window) {
        if (!desk.has(window)) {
            return false;
        }
        begin();
        desk.floats.drop(window);
        desk.remove(window);
        return end();
    }

    public boolean move(int what) {
        begin();
        desk.currentRow().rearrange(what);
        return end();
    }

    public boolean view(int workspace, boolean greedy) {
        if (!isWorkspace(workspace)) {
            return false;
        }
        begin();
        if (greedy) {
            desk.screens.bringGreedily(workspace);
        } else {
            desk.screens.bring(workspace);
        }
        return end();
    }

    public boolean shift(int workspace) {
        return send(desk.currentRow().focused(), workspace);
    }

    public boolean send(int window, int workspace) {
        if (!desk.has(window) || !isWorkspace(workspace)) {
            return false;
        }
        begin();
        desk.carry(window, workspace);
        return end();
    }

    public boolean focus(int window) {
        if (!desk.has(window)) {
            return false;
        }
        begin();
        desk.turnTo(window);
        return end();
    }

    public boolean click(int x, int y) {
        int screen = desk.screens.screenAt(x, y);
        if (screen == NONE) {
            return false;
        }
        int window = desk.windowAt(x, y, box);
        if (window != NONE) {
            return focus(window);
        }
        return view(desk.screens.workspaceOf(screen), false);
    }

    public boolean lift(int window, int a, int b, int c, int d) {
        if (!desk.has(window) || !isShare(a) || !isShare(b) || !isShare(c) || !isShare(d)) {
            return false;
        }
        begin();
        desk.floats.put(window, a, b, c, d);
        return end();
    }

    public boolean sink(int window) {
        if (!desk.has(window)) {
            return false;
        }
        begin();
        desk.floats.drop(window);
        return end();
    }

    public boolean layout(int kind) {
        if (kind < Layout.TALL || kind > Layout.MIDDLE) {
            return false;
        }
        begin();
        desk.currentLayout().kind = kind;
        return end();
    }

    public boolean shape(int masters, int part) {
        if (masters < 0 || masters > WINDOWS || !isShare(part)) {
            return false;
        }
        begin();
        desk.currentLayout().masters = masters;
        desk.currentLayout().part = part;
        return end();
    }

    public int rectangle(int x, int y, int w, int h) {
        if (waits >= SCREENS || !isCorner(x) || !isCorner(y) || !isLength(w) || !isLength(h)) {
            return NONE;
        }
        waiting[waits].put(x, y, w, h);
        waits++;
        return waits;
    }

    public boolean rescreen() {
        if (waits == 0) {
            return false;
        }
        begin();
        desk.screens.deal(waiting, waits);
        waits = 0;
        return end();
    }

    public int undo() {
        if (history.kept == 0) {
            return NONE;
        }
        desk = history.back(desk);
        return history.kept;
    }

    public int redo() {
        if (history.undone == 0) {
            return NONE;
        }
        desk = history.again(desk);
        return history.kept;
    }

    // ---- what is told

    public int workspace(int what, int k) {
        switch (what) {
            case 0: return desk.screens.currentWorkspace();
            case 1: return desk.screens.workspaceOf(k);
            case 2: return desk.screens.workspaceOf(desk.screens.visible.get(k));
            case 3: return desk.screens.hidden.get(k);
            default: return NONE;
        }
    }

    public int screen(int k, int what) {
        if (!desk.screens.has(k)) {
            return NOWHERE;
        }
        if (what == 4) {
            // The current screen is not in the row of visible ones: NONE and 1 are its 0.
            return 1 + desk.screens.visible.find(k);
        }
        return desk.screens.boxes[k].side(what);
    }

    public int count(int what) {
        switch (what) {
            case 0: return desk.windows();
            case 1: return desk.screens.many;
            case 2: return desk.screens.hidden.size;
            case 3: return desk.floats.many();
            case 4: return history.kept;
            case 5: return history.undone;
            case 6: return waits;
            default: return NONE;
        }
    }

    public int row(int workspace, int what) {
        if (!isWorkspace(workspace)) {
            return NONE;
        }
        Row row = desk.rows[workspace];
        Layout layout = desk.layouts[workspace];
        switch (what) {
            case 0: return row.order.size;
            case 1: return row.focused();
            case 2: return row.focusPlace;
            case 3: return layout.kind;
            case 4: return layout.masters;
            case 5: return layout.part;
            case 6: return desk.tilesAhead(row, row.order.size);
            case 7: return desk.screens.screenOf(workspace);
            default: return NONE;
        }
    }

    public int window(int workspace, int k) {
        return isWorkspace(workspace) ? desk.rows[workspace].order.get(k) : NONE;
    }

    public int place(int window, int what) {
        if (!desk.has(window)) {
            return NONE;
        }
        int home = desk.homes[window];
        switch (what) {
            case 0: return home;
            case 1: return desk.rows[home].order.find(window);
            case 2: return desk.floats.has(window) ? 1 : 0;
            case 3:
            case 4:
            case 5:
            case 6: return desk.floats.share(window, what - 3);
            default: return NONE;
        }
    }

    public int shown(int window, int what) {
        return desk.findBox(window, box) ? box.side(what) : NOWHERE;
    }

    public int at(int x, int y) {
        return desk.windowAt(x, y, box);
    }

    public long sum() {
        long sum = desk.screens.addTo(7L);
        for (int i = 0; i < WORKSPACES; i++) {
            sum = desk.rows[i].addTo(desk.layouts[i].addTo(sum));
        }
        return desk.floats.addTo(sum);
    }

    // ---- what an event begins and ends with

    private void begin() {
        before.fill(desk);
    }

    /** Keeps the event if it changed something: whether it did. */
    private boolean end() {
        if (desk.sameAs(before)) {
            return false;
        }
        before = history.keep(before);
        return true;
    }

    private static boolean isWorkspace(int workspace) {
        return workspace >= 0 && workspace < WORKSPACES;
    }

    private static boolean isShare(int number) {
        return number >= 0 && number <= THOUSAND;
    }

    private static boolean isCorner(int number) {
        return number >= -FARTHEST && number <= FARTHEST;
    }

    private static boolean isLength(int number) {
        return number >= 1 && number <= FARTHEST;
    }

    private static long mix(long sum, int number) {
        return (sum * 1000003L) ^ number;
    }

    /** A row of numbers with a fixed room; NONE stands at every place beyond its ends. */
    private static final class Line {
        final int[] numbers;
        int size;

        Line(int room) {
            numbers = new int[Math.max(room, 0)];
            size = 0;
        }

        int get(int place) {
            return place >= 0 && place < size ? numbers[place] : NONE;
        }

        int find(int number) {
            for (int i = 0; i < size; i++) {
                if (numbers[i] == number) {
                    return i;
                }
            }
            return NONE;
        }

        void insertAt(int place, int number) {
            if (place < 0 || place > size || size >= numbers.length) {
                return;
            }
            System.arraycopy(numbers, place, numbers, place + 1, size - place);
            numbers[place] = number;
            size++;
        }

        void removeAt(int place) {
            if (place < 0 || place >= size) {
                return;
            }
            size--;
            System.arraycopy(numbers, place + 1, numbers, place, size - place);
        }

        void exchange(int place, int other) {
            if (place < 0 || place >= size || other < 0 || other >= size) {
                return;
            }
            int number = numbers[place];
            numbers[place] = numbers[other];
            numbers[other] = number;
        }

        void fill(Line other) {
            size = Math.min(other.size, numbers.length);
            System.arraycopy(other.numbers, 0, numbers, 0, size);
        }

        boolean sameAs(Line other) {
            if (size != other.size) {
                return false;
            }
            for (int i = 0; i < size; i++) {
                if (numbers[i] != other.numbers[i]) {
                    return false;
                }
            }
            return true;
        }

        long addTo(long start) {
            long sum = start;
            for (int i = 0; i < size; i++) {
                sum = mix(sum, numbers[i]);
            }
            return sum;
        }
    }

    /** A rectangle that can be narrowed to one of its parts. */
    private static final class Box {
        int x;
        int y;
        int w;
        int h;

        void put(int left, int top, int width, int height) {
            x = left;
            y = top;
            w = width;
            h = height;
        }

        void fill(Box other) {
            put(other.x, other.y, other.w, other.h);
        }

        boolean sameAs(Box other) {
            return x == other.x && y == other.y && w == other.w && h == other.h;
        }

        int side(int what) {
            switch (what) {
                case 0: return x;
                case 1: return y;
                case 2: return w;
                case 3: return h;
                default: return NOWHERE;
            }
        }

        boolean holds(int pointX, int pointY) {
            return pointX >= x && pointY >= y && pointX < x + w && pointY < y + h;
        }

        /** Changes x and y, w and h for one another, so that what cuts widths cuts heights. */
        void turn() {
            put(y, x, h, w);
        }

        void keepLeft(int width) {
            w = width;
        }

        void dropLeft(int width) {
            x += width;
            w -= width;
        }

        /** Narrows to part k of n that are stacked. */
        void stack(int k, int n) {
            int top = edge(h, k, n);
            int bottom = edge(h, k + 1, n);
            y += top;
            h = bottom - top;
        }

        /** Narrows to part k of n that are lined up. */
        void lineUp(int k, int n) {
            int left = edge(w, k, n);
            int right = edge(w, k + 1, n);
            x += left;
            w = right - left;
        }

        /**
         * Where part k of n begins. Each part being what is left over the number of parts left
         * (cut), the parts that are one longer are the last ones, as many as the division leaves.
         */
        private static int edge(int length, int k, int n) {
            if (n < 1) {
                return 0;
            }
            int shorter = n - length % n;
            return k * (length / n) + Math.max(0, k - shorter);
        }
    }

    /** A workspace's layout: where tile k of n is. */
    private static final class Layout {
        static final int TALL = 0;
        static final int WIDE = 1;
        static final int FULL = 2;
        static final int GRID = 3;
        static final int BALANCED = 4;
        static final int MIDDLE = 5;

        int kind = TALL;
        int masters = 1;
        int part = 500;

        void fill(Layout other) {
            kind = other.kind;
            masters = other.masters;
            part = other.part;
        }

        boolean sameAs(Layout other) {
            return kind == other.kind && masters == other.masters && part == other.part;
        }

        long addTo(long sum) {
            return mix(mix(mix(sum, kind), masters), part);
        }

        /** Narrows a screen's box to its tile k of n; under FULL a tile that is shown has all. */
        void narrow(Box box, int k, int n) {
            switch (kind) {
                case WIDE:
                    box.turn();
                    tall(box, k, n);
                    box.turn();
                    break;
                case FULL:
                    break;
                case GRID:
                    grid(box, k, n);
                    break;
                case BALANCED:
                    balanced(box, k, n);
                    break;
                case MIDDLE:
                    if (masters > 0 && n > masters + 1 && box.w >= 3) {
                        middle(box, k, n);
                    } else {
                        tall(box, k, n);
                    }
                    break;
                default:
                    tall(box, k, n);
                    break;
            }
        }

        private void tall(Box box, int k, int n) {
            if (n <= masters || masters == 0) {
                box.stack(k, n);
                return;
            }
            // 1 at least comes last: a box of width 1 has nothing on its right.
            int left = Math.max(1, Math.min(box.w * part / THOUSAND, box.w - 1));
            if (k < masters) {
                box.keepLeft(left);
                box.stack(k, masters);
            } else {
                box.dropLeft(left);
                box.stack(k - masters, n - masters);
            }
        }

        private void middle(Box box, int k, int n) {
            int width = Math.max(1, Math.min(box.w * part / THOUSAND, box.w - 2));
            int side = (box.w - width) / 2;
            int onRight = (n - masters + 1) / 2;
            if (k < masters) {
                box.dropLeft(side);
                box.keepLeft(width);
                box.stack(k, masters);
            } else if (k < masters + onRight) {
                box.dropLeft(side + width);
                box.stack(k - masters, onRight);
            } else {
                box.keepLeft(side);
                box.stack(k - masters - onRight, n - masters - onRight);
            }
        }

        private static void grid(Box box, int k, int n) {
            int columns = 1;
            while (columns < WINDOWS && columns * columns < n) {
                columns++;
            }
            for (int i = 0; i < columns; i++) {
                int from = i * n / columns;
                int to = (i + 1) * n / columns;
                if (k >= from && k < to) {
                    box.lineUp(i, columns);
                    box.stack(k - from, to - from);
                    return;
                }
            }
        }

        private static void balanced(Box box, int k, int n) {
            int place = k;
            int many = n;
            for (int level = 0; level < WINDOWS && many > 1; level++) {
                int first = (many + 1) / 2;
                boolean high = box.w < box.h;
                if (high) {
                    box.turn();
                }
                int width = box.w * first / many;
                if (place < first) {
                    box.keepLeft(width);
                    many = first;
                } else {
                    box.dropLeft(width);
                    place -= first;
                    many -= first;
                }
                if (high) {
                    box.turn();
                }
            }
        }
    }

    /** A workspace's row: its windows in order, and the place of the focus among them. */
    private static final class Row {
        final Line order = new Line(WINDOWS);
        int focusPlace = NONE;

        int focused() {
            return order.get(focusPlace);
        }

        void insert(int window) {
            focusPlace = Math.max(focusPlace, 0);
            order.insertAt(focusPlace, window);
        }

        void remove(int window) {
            int gone = order.find(window);
            if (gone == NONE) {
                return;
            }
            order.removeAt(gone);
            if (gone < focusPlace || focusPlace >= order.size) {
                focusPlace--;
            }
        }

        void turnTo(int window) {
            focusPlace = order.find(window);
        }

        void rearrange(int what) {
            if (order.size == 0) {
                return;
            }
            int up = Math.floorMod(focusPlace - 1, order.size);
            int down = Math.floorMod(focusPlace + 1, order.size);
            switch (what) {
                case 0: focusPlace = up; break;
                case 1: focusPlace = down; break;
                case 2: focusPlace = 0; break;
                case 3: carryFocus(up); break;
                case 4: carryFocus(down); break;
                case 5: order.exchange(0, focusPlace); focusPlace = 0; break;
                case 6: carryFocus(0); break;
                default: break;
            }
        }

        /** The focus comes to a place, the order of the others stays. */
        private void carryFocus(int place) {
            int window = focused();
            order.removeAt(focusPlace);
            order.insertAt(place, window);
            focusPlace = place;
        }

        void fill(Row other) {
            order.fill(other.order);
            focusPlace = other.focusPlace;
        }

        boolean sameAs(Row other) {
            return focusPlace == other.focusPlace && order.sameAs(other.order);
        }

        long addTo(long sum) {
            return order.addTo(mix(sum, focusPlace));
        }
    }

    /** The screens with their workspaces, the current one, the visible ones, and what is hidden. */
    private static final class Screens {
        final Box[] boxes;
        final int[] workspaces;
        int many;
        int current;
        final Line visible;
        final Line hidden;

        Screens() {
            boxes = new Box[SCREENS];
            for (int i = 0; i < SCREENS; i++) {
                boxes[i] = new Box();
            }
            boxes[0].put(0, 0, 800, 600);
            workspaces = new int[SCREENS];
            many = 1;
            current = 0;
            visible = new Line(SCREENS);
            hidden = new Line(WORKSPACES);
            for (int i = 1; i < WORKSPACES; i++) {
                hidden.insertAt(i - 1, i);
            }
        }

        boolean has(int screen) {
            return screen >= 0 && screen < many;
        }

        int workspaceOf(int screen) {
            return has(screen) ? workspaces[screen] : NONE;
        }

        int currentWorkspace() {
            return workspaces[current];
        }

        int screenOf(int workspace) {
            for (int i = 0; i < many; i++) {
                if (workspaces[i] == workspace) {
                    return i;
                }
            }
            return NONE;
        }

        int screenAt(int x, int y) {
            for (int i = 0; i < many; i++) {
                if (boxes[i].holds(x, y)) {
                    return i;
                }
            }
            return NONE;
        }

        void bring(int workspace) {
            int screen = screenOf(workspace);
            if (screen == NONE) {
                bringHidden(workspace);
            } else if (screen != current) {
                visible.removeAt(visible.find(screen));
                visible.insertAt(0, current);
                current = screen;
            }
        }

        void bringGreedily(int workspace) {
            int screen = screenOf(workspace);
            if (screen == NONE) {
                bringHidden(workspace);
            } else if (screen != current) {
                workspaces[screen] = workspaces[current];
                workspaces[current] = workspace;
                visible.removeAt(visible.find(screen));
                visible.insertAt(0, screen);
            }
        }

        private void bringHidden(int workspace) {
            hidden.removeAt(hidden.find(workspace));
            hidden.insertAt(0, workspaces[current]);
            workspaces[current] = workspace;
        }

        /** All workspaces are one row, in the room of the hidden ones; then screens take the first ones. */
        void deal(Box[] given, int number) {
            for (int i = visible.size - 1; i >= 0; i--) {
                hidden.insertAt(0, workspaceOf(visible.get(i)));
            }
            hidden.insertAt(0, currentWorkspace());
            visible.size = 0;
            many = Math.min(number, SCREENS);
            current = 0;
            for (int i = 0; i < many; i++) {
                boxes[i].fill(given[i]);
                workspaces[i] = hidden.get(0);
                hidden.removeAt(0);
                if (i > 0) {
                    visible.insertAt(i - 1, i);
                }
            }
        }

        void fill(Screens other) {
            many = other.many;
            current = other.current;
            visible.fill(other.visible);
            hidden.fill(other.hidden);
            for (int i = 0; i < many; i++) {
                boxes[i].fill(other.boxes[i]);
                workspaces[i] = other.workspaces[i];
            }
        }

        boolean sameAs(Screens other) {
            if (many != other.many || current != other.current) {
                return false;
            }
            for (int i = 0; i < many; i++) {
                if (workspaces[i] != other.workspaces[i] || !boxes[i].sameAs(other.boxes[i])) {
                    return false;
                }
            }
            return visible.sameAs(other.visible) && hidden.sameAs(other.hidden);
        }

        long addTo(long start) {
            long sum = start;
            for (int i = 0; i < many; i++) {
                for (int side = 0; side < SIDES; side++) {
                    sum = mix(sum, boxes[i].side(side));
                }
                sum = mix(sum, workspaces[i]);
            }
            return hidden.addTo(visible.addTo(mix(sum, current)));
        }
    }

    /** Which windows float, a bit for each, with their four shares; those of tiles are 0. */
    private static final class Floats {
        long afloat = 0L;
        final int[] shares = new int[WINDOWS * SIDES];

        boolean has(int window) {
            return window >= 0 && window < WINDOWS && (afloat >> window & 1L) != 0L;
        }

        int many() {
            return Long.bitCount(afloat);
        }

        int share(int window, int which) {
            return shares[window * SIDES + which];
        }

        void put(int window, int a, int b, int c, int d) {
            afloat |= 1L << window;
            int first = window * SIDES;
            shares[first] = a;
            shares[first + 1] = b;
            shares[first + 2] = c;
            shares[first + 3] = d;
        }

        void drop(int window) {
            put(window, 0, 0, 0, 0);
            afloat &= ~(1L << window);
        }

        /** Turns a screen's box into where a floating window is shown on it. */
        void narrow(Box box, int window) {
            int left = box.x + box.w * share(window, 0) / THOUSAND;
            int top = box.y + box.h * share(window, 1) / THOUSAND;
            int width = box.w * share(window, 2) / THOUSAND;
            int height = box.h * share(window, 3) / THOUSAND;
            box.put(left, top, width, height);
        }

        void fill(Floats other) {
            afloat = other.afloat;
            System.arraycopy(other.shares, 0, shares, 0, WINDOWS * SIDES);
        }

        boolean sameAs(Floats other) {
            if (afloat != other.afloat) {
                return false;
            }
            for (int i = 0; i < WINDOWS * SIDES; i++) {
                if (shares[i] != other.shares[i]) {
                    return false;
                }
            }
            return true;
        }

        long addTo(long start) {
            long sum = start;
            for (int i = 0; i < WINDOWS; i++) {
                if (has(i)) {
                    sum = mix(sum, i);
                    for (int side = 0; side < SIDES; side++) {
                        sum = mix(sum, share(i, side));
                    }
                }
            }
            return sum;
        }
    }

    /** All that undo() brings back. */
    private static final class Desk {
        final Row[] rows;
        final Layout[] layouts;
        final Screens screens;
        final Floats floats;
        /** The workspace of each window, NONE if it is not there: else each question would search all rows. */
        final int[] homes;

        Desk() {
            rows = new Row[WORKSPACES];
            layouts = new Layout[WORKSPACES];
            for (int i = 0; i < WORKSPACES; i++) {
                rows[i] = new Row();
                layouts[i] = new Layout();
            }
            screens = new Screens();
            floats = new Floats();
            homes = new int[WINDOWS];
            for (int i = 0; i < WINDOWS; i++) {
                homes[i] = NONE;
            }
        }

        boolean has(int window) {
            return window >= 0 && window < WINDOWS && homes[window] != NONE;
        }

        int freeWindow() {
            for (int i = 0; i < WINDOWS; i++) {
                if (homes[i] == NONE) {
                    return i;
                }
            }
            return NONE;
        }

        int windows() {
            int many = 0;
            for (int i = 0; i < WORKSPACES; i++) {
                many += rows[i].order.size;
            }
            return many;
        }

        Row currentRow() {
            return rows[screens.currentWorkspace()];
        }

        Layout currentLayout() {
            return layouts[screens.currentWorkspace()];
        }

        void insert(int window, int workspace) {
            rows[workspace].insert(window);
            homes[window] = workspace;
        }

        void remove(int window) {
            rows[homes[window]].remove(window);
            homes[window] = NONE;
        }

        /**
         * Each half is done on its workspace, which is brought for it and left again: this puts
         * screens and hidden workspaces in another order, though no row needs it.
         */
        void carry(int window, int workspace) {
            int from = homes[window];
            if (from == workspace) {
                return;
            }
            int ahead = screens.currentWorkspace();
            screens.bring(from);
            remove(window);
            screens.bring(ahead);
            screens.bring(workspace);
            insert(window, workspace);
            screens.bring(ahead);
        }

        void turnTo(int window) {
            screens.bring(homes[window]);
            rows[homes[window]].turnTo(window);
        }

        /** How many of the windows ahead of a place in order are tiles. */
        int tilesAhead(Row row, int place) {
            int tiles = 0;
            for (int i = 0; i < place; i++) {
                if (!floats.has(row.order.get(i))) {
                    tiles++;
                }
            }
            return tiles;
        }

        /** The one tile that the layout FULL shows. */
        private int fullTile(Row row) {
            int focused = row.focused();
            if (focused == NONE || !floats.has(focused)) {
                return focused;
            }
            for (int i = 0; i < row.order.size; i++) {
                if (!floats.has(row.order.get(i))) {
                    return row.order.get(i);
                }
            }
            return NONE;
        }

        /** Sets a box to where a window is shown: whether it is. */
        boolean findBox(int window, Box box) {
            if (!has(window)) {
                return false;
            }
            int home = homes[window];
            int screen = screens.screenOf(home);
            if (screen == NONE) {
                return false;
            }
            box.fill(screens.boxes[screen]);
            if (floats.has(window)) {
                floats.narrow(box, window);
                return true;
            }
            Row row = rows[home];
            if (layouts[home].kind == Layout.FULL) {
                return fullTile(row) == window;
            }
            int k = tilesAhead(row, row.order.find(window));
            layouts[home].narrow(box, k, tilesAhead(row, row.order.size));
            return true;
        }

        /** The window that stands at a point; the box is only used to reckon with. */
        int windowAt(int x, int y, Box box) {
            int screen = screens.screenAt(x, y);
            if (screen == NONE) {
                return NONE;
            }
            Row row = rows[screens.workspaceOf(screen)];
            if (floatHolds(row.focused(), screen, x, y, box)) {
                return row.focused();
            }
            for (int i = 0; i < row.order.size; i++) {
                if (floatHolds(row.order.get(i), screen, x, y, box)) {
                    return row.order.get(i);
                }
            }
            return tileAt(screen, x, y, box);
        }

        private boolean floatHolds(int window, int screen, int x, int y, Box box) {
            if (!floats.has(window)) {
                return false;
            }
            box.fill(screens.boxes[screen]);
            floats.narrow(box, window);
            return box.holds(x, y);
        }

        private int tileAt(int screen, int x, int y, Box box) {
            int workspace = screens.workspaceOf(screen);
            Row row = rows[workspace];
            if (layouts[workspace].kind == Layout.FULL) {
                return fullTile(row);
            }
            int tiles = tilesAhead(row, row.order.size);
            int k = 0;
            for (int i = 0; i < row.order.size; i++) {
                if (floats.has(row.order.get(i))) {
                    continue;
                }
                box.fill(screens.boxes[screen]);
                layouts[workspace].narrow(box, k, tiles);
                if (box.holds(x, y)) {
                    return row.order.get(i);
                }
                k++;
            }
            return NONE;
        }

        void fill(Desk other) {
            for (int i = 0; i < WORKSPACES; i++) {
                rows[i].fill(other.rows[i]);
                layouts[i].fill(other.layouts[i]);
            }
            screens.fill(other.screens);
            floats.fill(other.floats);
            System.arraycopy(other.homes, 0, homes, 0, WINDOWS);
        }

        boolean sameAs(Desk other) {
            for (int i = 0; i < WORKSPACES; i++) {
                if (!rows[i].sameAs(other.rows[i]) || !layouts[i].sameAs(other.layouts[i])) {
                    return false;
                }
            }
            return screens.sameAs(other.screens) && floats.sameAs(other.floats);
        }
    }

    /**
     * The desks as they were ahead of the kept events, then, behind them, those that redo() brings
     * back: undo and redo change the desk in use for the one that is held here.
     */
    private static final class History {
        final Desk[] desks = new Desk[KEPT];
        int first;
        int kept;
        int undone;

        /**
         * Keeps the desk ahead of an event, and gives another one to be written over. Desks are
         * made when first needed and used again from then on, so that a new object stays small.
         */
        Desk keep(Desk before) {
            if (kept == KEPT) {
                first = (first + 1) % KEPT;
                kept--;
            }
            undone = 0;
            kept++;
            Desk spare = exchange(kept - 1, before);
            return spare == before ? new Desk() : spare;
        }

        Desk back(Desk now) {
            kept--;
            undone++;
            return exchange(kept, now);
        }

        Desk again(Desk now) {
            kept++;
            undone--;
            return exchange(kept - 1, now);
        }

        /** Gives what the slot held; where that was nothing yet, the given one. */
        private Desk exchange(int number, Desk given) {
            int slot = Math.floorMod(first + number, KEPT);
            Desk held = desks[slot];
            desks[slot] = given;
            return held == null ? given : held;
        }
    }
}
