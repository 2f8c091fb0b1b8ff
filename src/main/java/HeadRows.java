import java.util.Arrays;
import java.util.NoSuchElementException;

/** A scalp as a net of cells, partings along its sides, and rows of braids between them. */
public final class HeadRows {
    public static final int NONE = -1;

    private static final int LOOSE = -2;
    private static final int ROW_FACTOR = 200;

    private static final int COLUMNS = 16;
    private static final int LINES = 12;
    private static final int CELLS = COLUMNS * LINES;
    private static final int CORNERS_ACROSS = COLUMNS + 1;
    private static final int CORNERS_DOWN = LINES + 1;
    private static final int CORNERS = CORNERS_ACROSS * CORNERS_DOWN;
    private static final int LYING_SIDES = COLUMNS * CORNERS_DOWN;
    private static final int SIDES = LYING_SIDES + CORNERS_ACROSS * LINES;

    private static final int MOST_HAIRS = 99;
    private static final int FIRST_HAIRS = 10;
    private static final int LEAST_MM = 20;
    private static final int MOST_MM = 2000;
    private static final int FIRST_MM = 200;
    private static final int MM_A_WEEK = 3;
    private static final int MM_A_STEP = 10;

    private static final int MOST_SIGNS = 1000;
    private static final int MOST_DIGITS = 2;
    private static final int MOST_NESTED = 4;
    private static final int MOST_PARTINGS = 60;
    private static final int MOST_ROWS = 24;
    private static final int MOST_PROGRAMS = MOST_PARTINGS + MOST_ROWS;
    private static final int MOST_ADDED = 60;

    private static final int STRANDS = 3;
    private static final int HAIRS_A_STRAND = 3;
    private static final int HAIRS_A_JOINED_ROW = 9;
    private static final int MOST_APART = 2;

    private static final int MOST_HANDS = 3;
    private static final int MOST_SPEED = 3;
    private static final int MOST_IN_PLAN = 8;
    private static final int MOST_WEEKS_AT_ONCE = 20;
    private static final int LAST_WEEK = 99;
    private static final int MOST_HELD = 8;

    // The ways of a program and the sides of a cell share these numbers.
    private static final int UP = 0;
    private static final int DOWN = 1;
    private static final int LEFT = 2;
    private static final int RIGHT = 3;
    private static final int WAYS = 4;

    private static final int PART = 4;
    private static final int ROW = 5;
    private static final int AGAIN = 6;
    private static final int MIRROR = 7;
    private static final int NUMBER = 8;
    private static final int OPEN = 9;
    private static final int CLOSE = 10;
    private static final int STOP = 11;
    private static final int END = 12;
    private static final int NOTHING = 13;

    private static final int CAN_NOT_STAND = 1;
    private static final int NOT_AS_TOLD = 4;
    private static final int TOO_DEEP = 5;

    private static final int CORNER_OFF = 1;
    private static final int NO_SIDE = 2;
    private static final int SIDE_USED = 3;
    private static final int CORNER_USED = 4;
    private static final int CELL_OFF = 5;
    private static final int CELL_PARTED = 6;
    private static final int CELL_USED = 7;
    private static final int ONE_CELL = 8;
    private static final int TOO_MANY = 9;

    private final Head head;
    private final Partings partings;
    private final Rows rows;
    private final Takings takings;
    private final Lengths lengths;
    private final Braids braids;
    private final Crew crew;
    private final Tape tape;
    private final Script script;
    private final Painter painter;

    public HeadRows() {
        head = new Head();
        partings = new Partings();
        rows = new Rows(head, partings);
        takings = new Takings(head, partings, rows);
        lengths = new Lengths();
        braids = new Braids(head, rows, takings, lengths);
        crew = new Crew();
        tape = new Tape();
        script = new Script(tape);
        painter = new Painter(script, partings, rows);
        takings.settle();
    }

    public boolean cell(int column, int line, int hairs) {
        int cell = cellAt(column, line);
        if (cell == NONE || hairs < NONE || hairs > MOST_HAIRS || !isUntouched()) {
            return false;
        }
        head.putHairs(cell, hairs);
        settle();
        return true;
    }

    public boolean length(int mm) {
        if (!isLength(mm) || !isUntouched()) {
            return false;
        }
        head.mm = mm;
        return true;
    }

    public int feed(long a, long b, long c) {
        tape.putSigns(a);
        tape.putSigns(b);
        tape.putSigns(c);
        return tape.size;
    }

    public int draw() {
        int fault = script.read();
        tape.clear();
        if (fault != 0) {
            return fault;
        }
        int told = painter.drawProgram();
        if (told != NONE) {
            return -1 - told;
        }
        settle();
        return 0;
    }

    public int takeBack() {
        int gone = painter.undoLatest();
        if (gone != NONE) {
            settle();
        }
        return gone;
    }

    public int region(int column, int line) {
        return takings.regionAt(cellAt(column, line));
    }

    public int taken(int column, int line) {
        return takings.takerAt(cellAt(column, line));
    }

    public int side(int column, int line, int where) {
        int cell = cellAt(column, line);
        if (cell == NONE || where < 0 || where >= WAYS) {
            return NONE;
        }
        return partings.isParted(cell, where) ? 1 : 0;
    }

    public int row(int row, int step) {
        return rows.cellIn(row, step);
    }

    public int strand(int row, int step, int what) throws NoSuchElementException {
        int cell = rows.cellIn(row, step);
        if (cell == NONE || what < 0 || what > 5) {
            throw new NoSuchElementException();
        }
        if (what < STRANDS) {
            return braids.weightAt(cell, what);
        }
        if (what == 3) {
            return takings.hairsBy(cell);
        }
        if (what == 4) {
            return braids.pullAt(cell);
        }
        return head.isEdge(cell) ? 1 : 0;
    }

    public int added(int row, int step, int hairs, int mm) {
        boolean fits = hairs >= 1 && hairs <= MOST_HAIRS && isLength(mm);
        int cell = rows.cellIn(row, step);
        if (cell == NONE || !fits || lengths.size >= MOST_ADDED) {
            return NONE;
        }
        lengths.put(row, step, hairs, mm);
        rows.noteAdded(row, cell, hairs);
        braids.settle();
        return lengths.size;
    }

    public int pull(int row) {
        return rows.has(row) ? braids.greatestPull(row) : NONE;
    }

    public int even(int row) {
        return rows.has(row) ? braids.unevenness(row) : NONE;
    }

    public int hangs(int row) {
        return rows.has(row) ? braids.hang(row) : NONE;
    }

    public int join(int a, int b, int c) {
        if (!rows.canTie(a, b, c)) {
            return NONE;
        }
        return rows.tie(a, b, c);
    }

    public int look(int column, int line, int what) throws NoSuchElementException {
        int cell = cellAt(column, line);
        if (cell == NONE || what < 0 || what > 2) {
            throw new NoSuchElementException();
        }
        if (what == 0) {
            return head.hairsAt(cell);
        }
        if (what == 1) {
            return isUnlike(cell) ? 1 : 0;
        }
        int place = rows.placeAt(cell);
        return place == NONE ? NONE : place / ROW_FACTOR;
    }

    public int work(int row) {
        return rows.has(row) ? braids.minutes(row) : NONE;
    }

    public boolean hands(int a, int b, int c) {
        if (a == 0 || !isSpeed(a) || !isSpeed(b) || !isSpeed(c)) {
            return false;
        }
        crew.hire(a, b, c);
        return true;
    }

    public int plan(int what) {
        if (what < 0 || what > 2) {
            return NONE;
        }
        makePlan();
        if (what == 0) {
            return crew.leastTime;
        }
        return what == 1 ? crew.sitting() : crew.size;
    }

    public int planned(int row) {
        makePlan();
        return crew.handFor(row);
    }

    public int done() {
        for (int row = 0; row < rows.size; row++) {
            rows.putWeek(row, head.week);
        }
        return rows.size;
    }

    public int weeks(int n) {
        if (n < 0 || n > MOST_WEEKS_AT_ONCE || head.week + n > LAST_WEEK) {
            return NONE;
        }
        head.grow(n);
        return head.week;
    }

    public int holds(int row) {
        return rows.has(row) ? braids.weeksHeld(row) : NONE;
    }

    public int isOut(int row) {
        if (!rows.has(row)) {
            return NONE;
        }
        return isGrownOut(row) ? 1 : 0;
    }

    public boolean redo(int row) {
        if (!rows.has(row) || !isGrownOut(row) || rows.isTied(row)) {
            return false;
        }
        rows.putWeek(row, head.week);
        return true;
    }

    public int count(int what) {
        switch (what) {
            case 0: return partings.size;
            case 1: return rows.size;
            case 2: return takings.regions;
            case 3: return takings.loose;
            case 4: return unlikePairs();
            case 5: return head.allHairs();
            case 6: return braids.allWeights();
            case 7: return rows.knots;
            case 8: return painter.kept;
            case 9: return head.week;
            case 10: return head.mm;
            case 11: return tape.size;
            case 12: return lengths.size;
            default: return NONE;
        }
    }

    private boolean isUntouched() {
        return partings.size == 0 && rows.size == 0 && head.week == 0;
    }

    private void settle() {
        takings.settle();
        braids.settle();
    }

    private boolean isUnlike(int cell) {
        int other = cell - 2 * (cell % COLUMNS) + COLUMNS - 1;
        return head.isScalp(cell) != head.isScalp(other)
            || (rows.placeAt(cell) == NONE) != (rows.placeAt(other) == NONE)
            || (takings.takerAt(cell) == LOOSE) != (takings.takerAt(other) == LOOSE);
    }

    private int unlikePairs() {
        int pairs = 0;
        for (int cell = 0; cell < CELLS; cell++) {
            if (cell % COLUMNS < COLUMNS / 2 && isUnlike(cell)) {
                pairs++;
            }
        }
        return pairs;
    }

    private boolean isGrownOut(int row) {
        int week = rows.weekOf(row);
        return week != NONE && head.week - week >= braids.weeksHeld(row);
    }

    private void makePlan() {
        crew.clear();
        for (int row = 0; row < rows.size; row++) {
            if (rows.weekOf(row) == NONE || isGrownOut(row)) {
                crew.put(row, braids.minutes(row));
            }
        }
        crew.settle();
    }

    private static boolean isLength(int mm) {
        return mm >= LEAST_MM && mm <= MOST_MM;
    }

    private static boolean isSpeed(int speed) {
        return speed >= 0 && speed <= MOST_SPEED;
    }

    private static boolean isCell(int cell) {
        return cell >= 0 && cell < CELLS;
    }

    private static int cellAt(int column, int line) {
        boolean inside = column >= 0 && column < COLUMNS && line >= 0 && line < LINES;
        return inside ? COLUMNS * line + column : NONE;
    }

    private static int cellBeside(int cell, int where) {
        return cellAt(cell % COLUMNS + acrossBy(where), cell / COLUMNS + downBy(where));
    }

    private static int acrossBy(int way) {
        return way == LEFT ? -1 : way == RIGHT ? 1 : 0;
    }

    private static int downBy(int way) {
        return way == UP ? -1 : way == DOWN ? 1 : 0;
    }

    /** The hairs of the cells, how long they are, and which week it is. */
    private static final class Head {
        private final int[] hairs = new int[CELLS];
        private int mm = FIRST_MM;
        private int week = 0;

        Head() {
            Arrays.fill(hairs, FIRST_HAIRS);
        }

        void putHairs(int cell, int number) {
            if (isCell(cell)) {
                hairs[cell] = number;
            }
        }

        int hairsAt(int cell) {
            return isCell(cell) ? hairs[cell] : NONE;
        }

        boolean isScalp(int cell) {
            return isCell(cell) && hairs[cell] != NONE;
        }

        boolean isEdge(int cell) {
            for (int where = 0; where < WAYS; where++) {
                if (!isScalp(cellBeside(cell, where))) {
                    return true;
                }
            }
            return false;
        }

        int allHairs() {
            int sum = 0;
            for (int number : hairs) {
                sum += Math.max(0, number);
            }
            return sum;
        }

        void grow(int weeks) {
            week += weeks;
            mm = Math.min(MOST_MM, mm + MM_A_WEEK * weeks);
        }
    }

    /** A line of corners or of cells, walked until it leaves the net. */
    private static final class Trail {
        private final int[] points = new int[SIDES + 1];
        private final int[] ways = new int[SIDES + 1];
        private int wide;
        private int high;
        private int column;
        private int line;
        private int size;
        private int kept;
        private boolean isOff;

        void begin(boolean alongCells, int firstColumn, int firstLine) {
            wide = alongCells ? COLUMNS : CORNERS_ACROSS;
            high = alongCells ? LINES : CORNERS_DOWN;
            column = firstColumn;
            line = firstLine;
            size = 0;
            kept = 0;
            isOff = false;
            arrive(NONE);
        }

        void go(int way, int far) {
            for (int n = 0; n < far && !isOff; n++) {
                column += acrossBy(way);
                line += downBy(way);
                arrive(way);
            }
        }

        // What comes behind the points kept is counted only: by then a point has come twice.
        private void arrive(int way) {
            isOff = column < 0 || column >= wide || line < 0 || line >= high;
            if (isOff) {
                return;
            }
            size++;
            if (kept < points.length) {
                points[kept] = wide * line + column;
                ways[kept] = way;
                kept++;
            }
        }

        int pointAt(int n) {
            return n >= 0 && n < kept && n < points.length ? points[n] : NONE;
        }

        /** The way by which the point n was reached. */
        int wayAt(int n) {
            return n >= 0 && n < kept && n < ways.length ? ways[n] : NONE;
        }
    }

    /** Which parting each side has. */
    private static final class Partings {
        private final int[] partingOf = new int[SIDES];
        private final int[] sideSeen = new int[SIDES];
        private final int[] cornerSeen = new int[CORNERS];
        private int size = 0;

        Partings() {
            Arrays.fill(partingOf, NONE);
        }

        boolean isParted(int cell, int where) {
            return isCell(cell) && hasParting(sideOfCell(cell, where));
        }

        int whyNot(Trail trail) {
            if (size >= MOST_PARTINGS) {
                return TOO_MANY;
            }
            if (trail.isOff) {
                return CORNER_OFF;
            }
            if (trail.size < 2) {
                return NO_SIDE;
            }
            if (hasUsedSide(trail)) {
                return SIDE_USED;
            }
            return hasUsedCorner(trail) ? CORNER_USED : NONE;
        }

        void put(Trail trail) {
            for (int n = 1; n < trail.kept; n++) {
                int side = sideTo(trail, n);
                if (isSide(side)) {
                    partingOf[side] = size;
                }
            }
            size++;
        }

        void cutTo(int number) {
            for (int side = 0; side < SIDES; side++) {
                if (partingOf[side] >= number) {
                    partingOf[side] = NONE;
                }
            }
            size = number;
        }

        private boolean hasUsedSide(Trail trail) {
            if (trail.size > SIDES + 1) {
                return true;
            }
            Arrays.fill(sideSeen, 0);
            for (int n = 1; n < trail.kept; n++) {
                int side = sideTo(trail, n);
                if (!isSide(side) || hasParting(side) || sideSeen[side] > 0) {
                    return true;
                }
                sideSeen[side]++;
            }
            return false;
        }

        private boolean hasUsedCorner(Trail trail) {
            Arrays.fill(cornerSeen, 0);
            for (int n = 0; n < trail.kept; n++) {
                int corner = trail.pointAt(n);
                if (isCorner(corner)) {
                    cornerSeen[corner]++;
                }
            }
            for (int n = 1; n < trail.kept - 1; n++) {
                int corner = trail.pointAt(n);
                if (isCorner(corner) && (cornerSeen[corner] > 1 || isOnParting(corner))) {
                    return true;
                }
            }
            return false;
        }

        // A parting has a side at each of its corners, so the sides tell of the corners.
        private boolean isOnParting(int corner) {
            for (int way = 0; way < WAYS; way++) {
                if (hasParting(sideFromCorner(corner, way))) {
                    return true;
                }
            }
            return false;
        }

        private boolean hasParting(int side) {
            return side >= 0 && side < SIDES && partingOf[side] != NONE;
        }

        private static boolean isSide(int side) {
            return side >= 0 && side < SIDES;
        }

        private static boolean isCorner(int corner) {
            return corner >= 0 && corner < CORNERS;
        }

        private static int sideTo(Trail trail, int n) {
            return sideFromCorner(trail.pointAt(n - 1), trail.wayAt(n));
        }

        private static int sideOfCell(int cell, int where) {
            if (where == UP || where == DOWN) {
                return where == UP ? cell : cell + COLUMNS;
            }
            int left = LYING_SIDES + CORNERS_ACROSS * (cell / COLUMNS) + cell % COLUMNS;
            return where == LEFT ? left : left + 1;
        }

        private static int sideFromCorner(int corner, int way) {
            int column = corner % CORNERS_ACROSS;
            int line = corner / CORNERS_ACROSS;
            if (way == UP && line > 0) {
                return LYING_SIDES + corner - CORNERS_ACROSS;
            }
            if (way == DOWN && line < LINES) {
                return LYING_SIDES + corner;
            }
            if (way == LEFT && column > 0) {
                return COLUMNS * line + column - 1;
            }
            return way == RIGHT && column < COLUMNS ? COLUMNS * line + column : NONE;
        }
    }

    /** The cells of the rows, and what has befallen each row. */
    private static final class Rows {
        private final Head head;
        private final Partings partings;
        // The rows' cells stand one row behind the other: no cell is of two rows.
        private final int[] cells = new int[CELLS];
        private final int[] firstOf = new int[MOST_ROWS];
        private final int[] sizeOf = new int[MOST_ROWS];
        private final int[] placeOf = new int[CELLS];
        private final int[] addedAt = new int[CELLS];
        private final int[] timesAdded = new int[MOST_ROWS];
        private final int[] knotOf = new int[MOST_ROWS];
        private final int[] doneIn = new int[MOST_ROWS];
        private final int[] cellSeen = new int[CELLS];
        private int size = 0;
        private int knots = 0;

        Rows(Head head, Partings partings) {
            this.head = head;
            this.partings = partings;
            Arrays.fill(placeOf, NONE);
        }

        boolean has(int row) {
            return row >= 0 && row < size && row < MOST_ROWS;
        }

        int sizeIn(int row) {
            return has(row) ? sizeOf[row] : 0;
        }

        int cellIn(int row, int step) {
            if (!has(row) || step < 0 || step >= sizeOf[row]) {
                return NONE;
            }
            int at = firstOf[row] + step;
            return at >= 0 && at < CELLS ? cells[at] : NONE;
        }

        int lastCell(int row) {
            return cellIn(row, sizeIn(row) - 1);
        }

        /** ROW_FACTOR * row + step of the cell of a row that lies there. */
        int placeAt(int cell) {
            return isCell(cell) ? placeOf[cell] : NONE;
        }

        int whyNot(Trail trail) {
            if (size >= MOST_ROWS) {
                return TOO_MANY;
            }
            Arrays.fill(cellSeen, 0);
            for (int n = 0; n < trail.kept; n++) {
                int reason = whyNotCell(trail, n);
                if (reason != NONE) {
                    return reason;
                }
            }
            if (trail.isOff) {
                return CELL_OFF;
            }
            return trail.size == 1 ? ONE_CELL : NONE;
        }

        private int whyNotCell(Trail trail, int n) {
            int cell = trail.pointAt(n);
            if (!isCell(cell) || !head.isScalp(cell)) {
                return CELL_OFF;
            }
            if (n > 0 && partings.isParted(trail.pointAt(n - 1), trail.wayAt(n))) {
                return CELL_PARTED;
            }
            if (placeOf[cell] != NONE || cellSeen[cell] > 0) {
                return CELL_USED;
            }
            cellSeen[cell]++;
            return NONE;
        }

        void put(Trail trail) {
            if (size >= MOST_ROWS) {
                return;
            }
            int first = size == 0 ? 0 : firstOf[size - 1] + sizeOf[size - 1];
            firstOf[size] = first;
            sizeOf[size] = trail.kept;
            timesAdded[size] = 0;
            knotOf[size] = NONE;
            doneIn[size] = NONE;
            for (int n = 0; n < trail.kept; n++) {
                int cell = trail.pointAt(n);
                if (isCell(cell) && isCell(first + n)) {
                    cells[first + n] = cell;
                    placeOf[cell] = ROW_FACTOR * size + n;
                }
            }
            size++;
        }

        void cutTo(int number) {
            for (int cell = 0; cell < CELLS; cell++) {
                if (placeOf[cell] >= ROW_FACTOR * number) {
                    placeOf[cell] = NONE;
                }
            }
            size = number;
        }

        void noteAdded(int row, int cell, int hairs) {
            if (has(row) && isCell(cell)) {
                timesAdded[row]++;
                addedAt[cell] += hairs;
            }
        }

        int timesAddedTo(int row) {
            return has(row) ? timesAdded[row] : 0;
        }

        int addedIn(int cell) {
            return isCell(cell) ? addedAt[cell] : 0;
        }

        void putWeek(int row, int week) {
            if (has(row)) {
                doneIn[row] = week;
            }
        }

        int weekOf(int row) {
            return has(row) ? doneIn[row] : NONE;
        }

        int knotWith(int row) {
            return has(row) ? knotOf[row] : NONE;
        }

        boolean isTied(int row) {
            return knotWith(row) != NONE;
        }

        boolean canTie(int a, int b, int c) {
            if (!has(a) || !has(b) || !has(c) || a == b || a == c || b == c) {
                return false;
            }
            if (isTied(a) || isTied(b) || isTied(c)) {
                return false;
            }
            return endNear(a, b) && endNear(a, c) && endNear(b, c);
        }

        int tie(int a, int b, int c) {
            if (has(a) && has(b) && has(c)) {
                knotOf[a] = knots;
                knotOf[b] = knots;
                knotOf[c] = knots;
                knots++;
            }
            return knots;
        }

        private boolean endNear(int a, int b) {
            int one = lastCell(a);
            int other = lastCell(b);
            return Math.abs(one % COLUMNS - other % COLUMNS) <= MOST_APART
                && Math.abs(one / COLUMNS - other / COLUMNS) <= MOST_APART;
        }
    }

    /** The regions, and by which cell of a row each cell's hair is taken. */
    private static final class Takings {
        private final Head head;
        private final Partings partings;
        private final Rows rows;
        private final int[] regionOf = new int[CELLS];
        private final int[] takerOf = new int[CELLS];
        private final int[] farOf = new int[CELLS];
        private final int[] hairsOf = new int[CELLS];
        private final int[] queue = new int[CELLS];
        private int queued;
        private int regions;
        private int loose;

        Takings(Head head, Partings partings, Rows rows) {
            this.head = head;
            this.partings = partings;
            this.rows = rows;
        }

        int regionAt(int cell) {
            return isCell(cell) ? regionOf[cell] : NONE;
        }

        int takerAt(int cell) {
            return isCell(cell) ? takerOf[cell] : NONE;
        }

        /** T of a cell of a row. */
        int hairsBy(int cell) {
            return isCell(cell) ? hairsOf[cell] : 0;
        }

        void settle() {
            nameRegions();
            takeHair();
            sumHair();
        }

        private void nameRegions() {
            Arrays.fill(regionOf, NONE);
            regions = 0;
            for (int cell = 0; cell < CELLS; cell++) {
                if (regionOf[cell] == NONE && head.isScalp(cell)) {
                    nameRegion(cell);
                    regions++;
                }
            }
        }

        private void nameRegion(int name) {
            queued = 0;
            spreadName(name, name);
            for (int n = 0; n < queued && n < CELLS; n++) {
                for (int where = 0; where < WAYS; where++) {
                    spreadName(openBeside(queue[n], where), name);
                }
            }
        }

        private void spreadName(int cell, int name) {
            if (isCell(cell) && regionOf[cell] == NONE) {
                regionOf[cell] = name;
                push(cell);
            }
        }

        private void takeHair() {
            Arrays.fill(farOf, NONE);
            queued = 0;
            for (int cell = 0; cell < CELLS; cell++) {
                takerOf[cell] = rows.placeAt(cell);
                if (takerOf[cell] != NONE) {
                    farOf[cell] = 0;
                    push(cell);
                } else if (head.isScalp(cell)) {
                    takerOf[cell] = LOOSE;
                }
            }
            for (int n = 0; n < queued && n < CELLS; n++) {
                for (int where = 0; where < WAYS; where++) {
                    spreadTaker(queue[n], openBeside(queue[n], where));
                }
            }
        }

        // Takers are ordered as their numbers are, and all that are as near have spread
        // before a cell spreads its own: so the least number among equals stays.
        private void spreadTaker(int from, int to) {
            if (!isCell(from) || !isCell(to)) {
                return;
            }
            if (farOf[to] == NONE) {
                farOf[to] = farOf[from] + 1;
                takerOf[to] = takerOf[from];
                push(to);
            } else if (farOf[to] == farOf[from] + 1 && takerOf[from] < takerOf[to]) {
                takerOf[to] = takerOf[from];
            }
        }

        private void sumHair() {
            Arrays.fill(hairsOf, 0);
            loose = 0;
            for (int cell = 0; cell < CELLS; cell++) {
                if (takerOf[cell] == LOOSE) {
                    loose++;
                } else if (takerOf[cell] != NONE) {
                    addHair(takerOf[cell], head.hairsAt(cell));
                }
            }
        }

        private void addHair(int place, int hairs) {
            int taker = rows.cellIn(place / ROW_FACTOR, place % ROW_FACTOR);
            if (isCell(taker)) {
                hairsOf[taker] += hairs;
            }
        }

        private int openBeside(int cell, int where) {
            int beside = cellBeside(cell, where);
            return head.isScalp(beside) && !partings.isParted(cell, where) ? beside : NONE;
        }

        private void push(int cell) {
            if (queued < CELLS) {
                queue[queued] = cell;
                queued++;
            }
        }
    }

    /** Each time that hair was added, in order. */
    private static final class Lengths {
        private final int[] rowOf = new int[MOST_ADDED];
        private final int[] stepOf = new int[MOST_ADDED];
        private final int[] hairsOf = new int[MOST_ADDED];
        private final int[] mmOf = new int[MOST_ADDED];
        private int size = 0;

        void put(int row, int step, int hairs, int mm) {
            if (size < MOST_ADDED) {
                rowOf[size] = row;
                stepOf[size] = step;
                hairsOf[size] = hairs;
                mmOf[size] = mm;
                size++;
            }
        }
    }

    /** The strands of all rows: their weights, pull, hang, and what follows from these. */
    private static final class Braids {
        private static final int ALL = 3;

        private final Head head;
        private final Rows rows;
        private final Takings takings;
        private final Lengths lengths;
        private final int[] leftAt = new int[CELLS];
        private final int[] middleAt = new int[CELLS];
        private final int[] rightAt = new int[CELLS];
        private final int[] longest = new int[HAIRS_A_JOINED_ROW];
        private int wanted;
        private int held;

        Braids(Head head, Rows rows, Takings takings, Lengths lengths) {
            this.head = head;
            this.rows = rows;
            this.takings = takings;
            this.lengths = lengths;
        }

        void settle() {
            for (int row = 0; row < rows.size; row++) {
                weigh(row);
            }
        }

        private void weigh(int row) {
            int left = 0;
            int middle = 0;
            int right = 0;
            for (int step = 0; step < rows.sizeIn(row); step++) {
                int cell = rows.cellIn(row, step);
                int hairs = takings.hairsBy(cell);
                int added = rows.addedIn(cell);
                if (step == 0) {
                    left = thirdOf(hairs, 0) + added;
                    middle = thirdOf(hairs, 1);
                    right = thirdOf(hairs, 2);
                } else if (step % 2 == 1) {
                    int taking = left + hairs + added;
                    left = middle;
                    middle = taking;
                } else {
                    int taking = right + hairs + added;
                    right = middle;
                    middle = taking;
                }
                keepWeights(cell, left, middle, right);
            }
        }

        private void keepWeights(int cell, int left, int middle, int right) {
            if (isCell(cell)) {
                leftAt[cell] = left;
                middleAt[cell] = middle;
                rightAt[cell] = right;
            }
        }

        private static int thirdOf(int hairs, int strand) {
            return (hairs + 2 - strand) / STRANDS;
        }

        int weightAt(int cell, int strand) {
            if (!isCell(cell)) {
                return 0;
            }
            return strand == 0 ? leftAt[cell] : strand == 1 ? middleAt[cell] : rightAt[cell];
        }

        private int leastAt(int cell) {
            return Math.min(weightAt(cell, 0), Math.min(weightAt(cell, 1), weightAt(cell, 2)));
        }

        private int greatestAt(int cell) {
            return Math.max(weightAt(cell, 0), Math.max(weightAt(cell, 1), weightAt(cell, 2)));
        }

        int pullAt(int cell) {
            int pull = greatestAt(cell) - leastAt(cell);
            return head.isEdge(cell) ? 2 * pull : pull;
        }

        int greatestPull(int row) {
            int greatest = 0;
            for (int step = 0; step < rows.sizeIn(row); step++) {
                greatest = Math.max(greatest, pullAt(rows.cellIn(row, step)));
            }
            return greatest;
        }

        int unevenness(int row) {
            int least = takings.hairsBy(rows.cellIn(row, 0));
            int greatest = least;
            for (int step = 1; step < rows.sizeIn(row); step++) {
                int hairs = takings.hairsBy(rows.cellIn(row, step));
                least = Math.min(least, hairs);
                greatest = Math.max(greatest, hairs);
            }
            return greatest - least;
        }

        int weeksHeld(int row) {
            int least = leastAt(rows.cellIn(row, 0));
            for (int step = 1; step < rows.sizeIn(row); step++) {
                least = Math.min(least, leastAt(rows.cellIn(row, step)));
            }
            return Math.min(MOST_HELD, least / 4 + 1);
        }

        private int lastWeights(int row) {
            int cell = rows.lastCell(row);
            return weightAt(cell, 0) + weightAt(cell, 1) + weightAt(cell, 2);
        }

        int allWeights() {
            int sum = 0;
            for (int row = 0; row < rows.size; row++) {
                sum += lastWeights(row);
            }
            return sum;
        }

        int minutes(int row) {
            return 2 * rows.sizeIn(row) + lastWeights(row) / 10 + 5 * rows.timesAddedTo(row);
        }

        int hang(int row) {
            int least = MOST_MM;
            if (!rows.isTied(row)) {
                for (int strand = 0; strand < STRANDS; strand++) {
                    least = Math.min(least, reach(row, strand, HAIRS_A_STRAND));
                }
                return least;
            }
            for (int other = 0; other < rows.size; other++) {
                if (rows.knotWith(other) == rows.knotWith(row)) {
                    least = Math.min(least, reach(other, ALL, HAIRS_A_JOINED_ROW));
                }
            }
            return least;
        }

        /** How far so many of the hairs of a strand reach at least; strands are told by where they began. */
        private int reach(int row, int strand, int number) {
            wanted = number;
            held = 0;
            int last = rows.sizeIn(row) - 1;
            for (int step = 0; step <= last; step++) {
                keepLongest(shareAt(row, step, strand), head.mm - MM_A_STEP * (last - step));
            }
            for (int n = 0; n < lengths.size && n < MOST_ADDED; n++) {
                int step = lengths.stepOf[n];
                if (lengths.rowOf[n] == row && (strand == ALL || takerAt(step) == strand)) {
                    keepLongest(lengths.hairsOf[n], lengths.mmOf[n] - MM_A_STEP * (last - step));
                }
            }
            return held > 0 && held >= wanted && held <= longest.length ? longest[held - 1] : 0;
        }

        private int shareAt(int row, int step, int strand) {
            int hairs = takings.hairsBy(rows.cellIn(row, step));
            if (strand == ALL) {
                return hairs;
            }
            if (step == 0) {
                return thirdOf(hairs, strand);
            }
            return takerAt(step) == strand ? hairs : 0;
        }

        // An odd and an even change together turn the three round by one place, so each
        // strand takes at every third step: first the left, then the right, then the middle one.
        private static int takerAt(int step) {
            if (step == 0 || step % STRANDS == 1) {
                return 0;
            }
            return step % STRANDS == 2 ? 2 : 1;
        }

        private void keepLongest(int hairs, int mm) {
            int copies = Math.min(hairs, wanted);
            for (int n = 0; n < copies; n++) {
                insert(Math.max(0, mm));
            }
        }

        private void insert(int mm) {
            int at = held;
            if (held >= wanted) {
                at = wanted - 1;
                if (at < 0 || at >= longest.length || longest[at] >= mm) {
                    return;
                }
            } else {
                held++;
            }
            for (; at > 0 && at < longest.length && longest[at - 1] < mm; at--) {
                longest[at] = longest[at - 1];
            }
            if (at >= 0 && at < longest.length) {
                longest[at] = mm;
            }
        }
    }

    /** The hands at work, and the plan for the rows put before them. */
    private static final class Crew {
        // Far above the time that eight rows can take.
        private static final int NEVER = 1000000;

        private final int[] speedOf = new int[MOST_HANDS];
        private final int[] loadOf = new int[MOST_HANDS];
        private final int[] rowOf = new int[MOST_IN_PLAN];
        private final int[] minutesOf = new int[MOST_IN_PLAN];
        private final int[] handOf = new int[MOST_IN_PLAN];
        private final int[] bestOf = new int[MOST_IN_PLAN];
        private int size = 0;
        private int leastTime = 0;

        Crew() {
            speedOf[0] = 1;
        }

        void hire(int a, int b, int c) {
            speedOf[0] = a;
            speedOf[1] = b;
            speedOf[2] = b == 0 ? 0 : c;
        }

        void clear() {
            size = 0;
        }

        void put(int row, int minutes) {
            if (size < MOST_IN_PLAN) {
                rowOf[size] = row;
                minutesOf[size] = minutes;
                size++;
            }
        }

        void settle() {
            Arrays.fill(loadOf, 0);
            leastTime = NEVER;
            share(0, 0);
        }

        // Hands are tried from the least on and only a lesser time is kept:
        // so of equal plans the one that the document wants stays.
        private void share(int n, int time) {
            if (n >= size || n < 0 || n >= MOST_IN_PLAN) {
                leastTime = time;
                System.arraycopy(handOf, 0, bestOf, 0, MOST_IN_PLAN);
                return;
            }
            for (int hand = 0; hand < MOST_HANDS; hand++) {
                if (speedOf[hand] > 0) {
                    giveTo(hand, n, time);
                }
            }
        }

        private void giveTo(int hand, int n, int time) {
            int speed = Math.max(1, speedOf[hand]);
            int minutes = (minutesOf[n] + speed - 1) / speed;
            loadOf[hand] += minutes;
            int timeNow = Math.max(time, loadOf[hand]);
            if (timeNow < leastTime) {
                handOf[n] = hand;
                share(n + 1, timeNow);
            }
            loadOf[hand] -= minutes;
        }

        int sitting() {
            int rests = leastTime > 0 ? (leastTime - 1) / 60 : 0;
            return leastTime + 10 * rests;
        }

        int handFor(int row) {
            for (int n = 0; n < size && n < MOST_IN_PLAN; n++) {
                if (rowOf[n] == row) {
                    return bestOf[n];
                }
            }
            return NONE;
        }
    }

    /** The signs that were fed, read token by token. */
    private static final class Tape {
        private final char[] signs = new char[MOST_SIGNS];
        private int size = 0;
        private int at;
        private int kind;
        private int place;
        private int value;

        void clear() {
            size = 0;
        }

        void putSigns(long eight) {
            for (int shift = 56; shift >= 0; shift -= 8) {
                int sign = (int) (eight >>> shift) & 255;
                boolean fits = sign == 10 || sign >= 32 && sign <= 126;
                if (fits && size < MOST_SIGNS) {
                    signs[size] = (char) sign;
                    size++;
                }
            }
        }

        void rewind() {
            at = 0;
            next();
        }

        void next() {
            while (at < size && isBlank(signAt(at))) {
                at++;
            }
            place = at;
            char sign = signAt(at);
            if (at >= size) {
                kind = END;
            } else if (isLetter(sign)) {
                readWord();
            } else if (isDigit(sign)) {
                readNumber();
            } else {
                at++;
                kind = sign == '(' ? OPEN : sign == ')' ? CLOSE : sign == ';' ? STOP : NOTHING;
            }
        }

        private void readNumber() {
            value = 0;
            while (at < size && isDigit(signAt(at))) {
                value = 10 * value + signAt(at) - '0';
                at++;
            }
            kind = at - place > MOST_DIGITS ? NOTHING : NUMBER;
        }

        private void readWord() {
            while (at < size && isLetter(signAt(at))) {
                at++;
            }
            if (isWord("up")) {
                kind = UP;
            } else if (isWord("down")) {
                kind = DOWN;
            } else if (isWord("left")) {
                kind = LEFT;
            } else if (isWord("right")) {
                kind = RIGHT;
            } else if (isWord("part")) {
                kind = PART;
            } else if (isWord("row")) {
                kind = ROW;
            } else if (isWord("again")) {
                kind = AGAIN;
            } else {
                kind = isWord("mirror") ? MIRROR : NOTHING;
            }
        }

        private boolean isWord(String word) {
            int letters = word.length();
            if (letters != at - place || at > MOST_SIGNS) {
                return false;
            }
            for (int n = 0; n < letters; n++) {
                if (word.charAt(n) != signs[place + n]) {
                    return false;
                }
            }
            return true;
        }

        private char signAt(int n) {
            return n >= 0 && n < size && n < MOST_SIGNS ? signs[n] : ' ';
        }

        private static boolean isBlank(char sign) {
            return sign == 10 || sign == 32;
        }

        private static boolean isLetter(char sign) {
            return sign >= 'a' && sign <= 'z';
        }

        private static boolean isDigit(char sign) {
            return sign >= '0' && sign <= '9';
        }
    }

    /**
     * A program as numbers: PART or ROW, column, line, how many ways, then each way and how far;
     * AGAIN, times, way, how far, the place behind its brackets; MIRROR, the place behind its brackets.
     */
    private static final class Script {
        private final Tape tape;
        private final int[] code = new int[MOST_SIGNS];
        private final int[] openedAt = new int[MOST_NESTED];
        private int size;
        private int depth;
        private int fault;

        Script(Tape tape) {
            this.tape = tape;
        }

        int codeAt(int n) {
            return n >= 0 && n < size && n < MOST_SIGNS ? code[n] : 0;
        }

        /** Reads the tape; answers its fault, or 0. */
        int read() {
            size = 0;
            depth = 0;
            fault = 0;
            tape.rewind();
            for (int n = 0; n <= MOST_SIGNS && fault == 0 && (depth > 0 || tape.kind != END); n++) {
                switch (tape.kind) {
                    case PART:
                        readLine(COLUMNS, LINES);
                        break;
                    case ROW:
                        readLine(COLUMNS - 1, LINES - 1);
                        break;
                    case AGAIN:
                    case MIRROR:
                        readOpening();
                        break;
                    case CLOSE:
                        readClosing();
                        break;
                    default:
                        tellFault(CAN_NOT_STAND);
                        break;
                }
            }
            return fault;
        }

        private void readLine(int mostAcross, int mostDown) {
            put(tape.kind);
            tape.next();
            readNumber(0, mostAcross);
            readNumber(0, mostDown);
            int counter = size;
            put(0);
            readWay();
            int ways = 1;
            for (; ways <= MOST_SIGNS && fault == 0 && tape.kind != STOP; ways++) {
                readWay();
            }
            if (counter < MOST_SIGNS) {
                code[counter] = ways;
            }
            expect(STOP);
        }

        private void readOpening() {
            if (depth >= MOST_NESTED) {
                tellFault(TOO_DEEP);
                return;
            }
            openedAt[depth] = size;
            depth++;
            boolean isAgain = tape.kind == AGAIN;
            put(tape.kind);
            tape.next();
            if (isAgain) {
                readNumber(1, 9);
                readWay();
            }
            put(0);
            expect(OPEN);
        }

        private void readClosing() {
            if (depth <= 0 || depth > MOST_NESTED) {
                tellFault(CAN_NOT_STAND);
                return;
            }
            tape.next();
            expect(STOP);
            depth--;
            int start = openedAt[depth];
            int end = start + (codeAt(start) == AGAIN ? 4 : 1);
            // Brackets that draw nothing are left out, so that each round of drawing draws something.
            if (size == end + 1) {
                size = start;
            } else if (end < MOST_SIGNS) {
                code[end] = size;
            }
        }

        // The first fault stays, and no token behind it is read.
        private void readWay() {
            if (tape.kind >= WAYS) {
                tellFault(CAN_NOT_STAND);
            }
            if (fault == 0) {
                put(tape.kind);
                tape.next();
                readNumber(0, COLUMNS);
            }
        }

        private void readNumber(int least, int most) {
            if (tape.kind != NUMBER) {
                tellFault(CAN_NOT_STAND);
            } else if (tape.value < least || tape.value > most) {
                tellFault(NOT_AS_TOLD);
            }
            if (fault == 0) {
                put(tape.value);
                tape.next();
            }
        }

        private void expect(int kind) {
            if (tape.kind != kind) {
                tellFault(CAN_NOT_STAND);
            }
            if (fault == 0) {
                tape.next();
            }
        }

        private void tellFault(int kind) {
            if (fault == 0) {
                fault = kind + 16 * tape.place;
            }
        }

        private void put(int number) {
            if (size < MOST_SIGNS) {
                code[size] = number;
                size++;
            }
        }
    }

    /** Draws programs and keeps what each of them drew. */
    private static final class Painter {
        private final Script script;
        private final Partings partings;
        private final Rows rows;
        private final Trail trail = new Trail();
        private final int[] partingsAhead = new int[MOST_PROGRAMS];
        private final int[] rowsAhead = new int[MOST_PROGRAMS];
        private int kept = 0;
        private int drawn;
        private int told;

        Painter(Script script, Partings partings, Rows rows) {
            this.script = script;
            this.partings = partings;
            this.rows = rows;
        }

        /** Answers what is told of the parting or row that can't be, or NONE. */
        int drawProgram() {
            int partingsBefore = partings.size;
            int rowsBefore = rows.size;
            drawn = 0;
            told = NONE;
            drawSteps(0, script.size, 1, 0, 0, 0);
            if (told != NONE) {
                partings.cutTo(partingsBefore);
                rows.cutTo(rowsBefore);
            } else if (drawn > 0 && kept < MOST_PROGRAMS) {
                partingsAhead[kept] = partingsBefore;
                rowsAhead[kept] = rowsBefore;
                kept++;
            }
            return told;
        }

        int undoLatest() {
            if (kept <= 0 || kept > MOST_PROGRAMS) {
                return NONE;
            }
            int partingsBefore = partingsAhead[kept - 1];
            int rowsBefore = rowsAhead[kept - 1];
            for (int row = rowsBefore; row < rows.size; row++) {
                if (rows.timesAddedTo(row) > 0 || rows.isTied(row)) {
                    return NONE;
                }
            }
            int gone = partings.size - partingsBefore + rows.size - rowsBefore;
            partings.cutTo(partingsBefore);
            rows.cutTo(rowsBefore);
            kept--;
            return gone;
        }

        // A place is flipped (flip -1: column x is -x) and then moved by across and down.
        private void drawSteps(int from, int end, int flip, int across, int down, int depth) {
            if (depth > MOST_NESTED) {
                return;
            }
            int at = from;
            for (int n = 0; n < MOST_SIGNS && at < end && told == NONE; n++) {
                int kind = script.codeAt(at);
                if (kind == AGAIN) {
                    drawAgain(at, flip, across, down, depth);
                    at = script.codeAt(at + 4);
                } else if (kind == MIRROR) {
                    drawMirrored(at, flip, across, down, depth);
                    at = script.codeAt(at + 1);
                } else {
                    drawLine(at, flip, across, down);
                    at += 4 + 2 * script.codeAt(at + 3);
                }
            }
        }

        private void drawAgain(int at, int flip, int across, int down, int depth) {
            int times = script.codeAt(at + 1);
            int way = script.codeAt(at + 2);
            int far = script.codeAt(at + 3);
            int end = script.codeAt(at + 4);
            for (int n = 0; n < times && told == NONE; n++) {
                int further = across + flip * n * far * acrossBy(way);
                drawSteps(at + 5, end, flip, further, down + n * far * downBy(way), depth + 1);
            }
        }

        private void drawMirrored(int at, int flip, int across, int down, int depth) {
            int end = script.codeAt(at + 1);
            drawSteps(at + 2, end, flip, across, down, depth + 1);
            if (told == NONE) {
                drawSteps(at + 2, end, -flip, across + flip * COLUMNS, down, depth + 1);
            }
        }

        private void drawLine(int at, int flip, int across, int down) {
            boolean isRow = script.codeAt(at) == ROW;
            walk(at, flip, across, down);
            int reason = isRow ? rows.whyNot(trail) : partings.whyNot(trail);
            if (reason != NONE) {
                told = reason + 16 * drawn;
                return;
            }
            if (isRow) {
                rows.put(trail);
            } else {
                partings.put(trail);
            }
            drawn++;
        }

        private void walk(int at, int flip, int across, int down) {
            boolean isRow = script.codeAt(at) == ROW;
            int column = across + flip * script.codeAt(at + 1);
            // A flipped cell lies left of the corner that its own left corner became.
            int shift = isRow && flip < 0 ? 1 : 0;
            trail.begin(isRow, column - shift, down + script.codeAt(at + 2));
            int ways = script.codeAt(at + 3);
            for (int n = 0; n < ways; n++) {
                int way = script.codeAt(at + 4 + 2 * n);
                boolean turns = flip < 0 && (way == LEFT || way == RIGHT);
                trail.go(turns ? LEFT + RIGHT - way : way, script.codeAt(at + 5 + 2 * n));
            }
        }
    }
}
