import java.util.NoSuchElementException;

/** Long mixed runs of calls, each answer held against the Model's. */
public final class ModelTest {
    private static final String[] WAYS = {"up", "down", "left", "right"};
    private static final int RUNS = 240;
    private static final int CALLS = 300;
    private static final int THROWN = Integer.MIN_VALUE;

    private long state;
    private final HeadRows head;
    private final Model model;
    // Runs of their own kind: with many short rows, with partings from edge to edge, with thin hair.
    private final boolean isDense;
    private final boolean isParted;
    private final boolean isThin;

    private ModelTest(long seed) {
        state = seed * 7919 + 17;
        head = new HeadRows();
        model = new Model();
        isDense = seed % 2 == 0;
        isParted = seed % 3 == 0;
        isThin = seed % 5 == 0;
    }

    private int upTo(int most) {
        state = state * 6364136223846793005L + 1442695040888963407L;
        return (int) ((state >>> 33) % (most + 1));
    }

    private int between(int least, int most) {
        return least + upTo(most - least);
    }

    private boolean oneIn(int n) {
        return upTo(n - 1) == 0;
    }

    private String way(int most) {
        return WAYS[upTo(3)] + blank() + upTo(most);
    }

    private String blank() {
        return oneIn(20) ? "\n" : oneIn(12) ? "" : " ";
    }

    private String line() {
        if (isParted && oneIn(3)) {
            return oneIn(2) ? "part " + upTo(16) + " 0 down " + between(3, 12) + " ;"
                : "part 0 " + upTo(12) + " right " + between(3, 16) + " ;";
        }
        if (isDense && oneIn(2)) {
            return (oneIn(3) ? "part " : "row ") + upTo(15) + " " + upTo(11) + " " + WAYS[upTo(3)] + " "
                + between(1, 2) + " ;";
        }
        boolean isRow = oneIn(2);
        StringBuilder text = new StringBuilder(isRow ? "row" : "part");
        text.append(blank()).append(upTo(isRow ? 15 : 16)).append(' ').append(upTo(isRow ? 11 : 12));
        int ways = between(1, oneIn(4) ? 5 : 2);
        for (int n = 0; n < ways; n++) {
            text.append(blank()).append(way(oneIn(6) ? 12 : 4));
        }
        return text.append(blank()).append(';').toString();
    }

    private String steps(int depth, int most) {
        StringBuilder text = new StringBuilder();
        int steps = upTo(most);
        for (int n = 0; n < steps; n++) {
            int kind = upTo(9);
            if (kind < 7 || depth > 5) {
                text.append(line());
            } else if (kind == 7) {
                text.append("again ").append(between(1, 4)).append(blank()).append(way(4)).append(blank())
                    .append('(').append(steps(depth + 1, 2)).append(')').append(blank()).append(';');
            } else {
                text.append("mirror").append(blank()).append('(').append(steps(depth + 1, 2)).append(") ;");
            }
            text.append(blank());
        }
        return text.toString();
    }

    private String program() {
        String text = oneIn(3) ? steps(0, 4) : oneIn(2) ? line() : "mirror ( " + line() + " ) ;";
        if (oneIn(12) && text.length() > 1) {
            int at = upTo(text.length() - 1);
            String signs = "();07 9abwz%-A{\n";
            char sign = signs.charAt(upTo(signs.length() - 1));
            text = text.substring(0, at) + sign + text.substring(at + (oneIn(2) ? 1 : 0));
        }
        return text;
    }

    private int column() {
        return between(oneIn(9) ? -1 : 0, oneIn(9) ? 16 : 15);
    }

    private int lineNumber() {
        return between(oneIn(9) ? -1 : 0, oneIn(9) ? 12 : 11);
    }

    private int row() {
        return oneIn(20) ? between(-2, 25) : upTo(Math.max(0, head.count(1) - (oneIn(9) ? 0 : 1)));
    }

    private int step() {
        return oneIn(15) ? between(-1, 20) : upTo(4);
    }

    private void same(String call, int got, int want) {
        Check.due(call, got, want);
    }

    private void prepare() {
        for (int cell = 0; isThin && cell < 192; cell++) {
            int hairs = oneIn(9) ? upTo(9) : upTo(1);
            same("cell", head.cell(cell % 16, cell / 16, hairs) ? 1 : 0, model.cell(cell % 16, cell / 16, hairs) ? 1 : 0);
        }
        int cells = oneIn(3) ? 0 : upTo(30);
        for (int n = 0; n < cells; n++) {
            int x = column();
            int y = lineNumber();
            int hairs = oneIn(3) ? -1 : between(-2, oneIn(4) ? 100 : 12);
            same("cell", head.cell(x, y, hairs) ? 1 : 0, model.cell(x, y, hairs) ? 1 : 0);
        }
        if (oneIn(2)) {
            int mm = oneIn(3) ? between(10, 2010) : between(20, 120);
            same("length", head.length(mm) ? 1 : 0, model.length(mm) ? 1 : 0);
        }
    }

    private void draw() {
        String text = program();
        for (int at = 0; at < text.length(); at += 24) {
            long a = Check.eight(text, at);
            long b = Check.eight(text, at + 8);
            long c = Check.eight(text, at + 16);
            same("feed", head.feed(a, b, c), model.feed(a, b, c));
        }
        same("draw of " + text, head.draw(), model.draw());
    }

    private void tie() {
        int a = row();
        int b = row();
        int c = row();
        for (int n = 0; n < 40 && head.count(1) > 2; n++) {
            if (oneIn(2)) {
                b = upTo(head.count(1) - 1);
            } else {
                c = upTo(head.count(1) - 1);
            }
            if (isNear(a, b) && isNear(a, c) && isNear(b, c)) {
                break;
            }
        }
        same("join", head.join(a, b, c), model.join(a, b, c));
        same("hangs behind a join", head.hangs(b), model.hangs(b));
    }

    // Only to find rows that are worth a try: what is due comes from the model.
    private boolean isNear(int a, int b) {
        int one = lastCell(a);
        int other = lastCell(b);
        return a != b && Math.abs(one % 16 - other % 16) < 4 && Math.abs(one / 16 - other / 16) < 4;
    }

    private int lastCell(int row) {
        int cell = 0;
        for (int step = 0; step < 192 && model.row(row, step) >= 0; step++) {
            cell = model.row(row, step);
        }
        return cell;
    }

    private void change() {
        int kind = upTo(19);
        int row = row();
        if (kind < 9) {
            draw();
        } else if (kind == 9) {
            same("takeBack", head.takeBack(), model.takeBack());
        } else if (kind < 12) {
            int step = step();
            int hairs = oneIn(8) ? between(-1, 101) : between(1, 12);
            int mm = oneIn(8) ? between(15, 2005) : between(20, 300);
            same("added", head.added(row, step, hairs, mm), model.added(row, step, hairs, mm));
        } else if (kind < 15) {
            tie();
        } else if (kind == 15) {
            int a = between(oneIn(5) ? -1 : 1, oneIn(9) ? 4 : 3);
            int b = between(0, oneIn(9) ? 4 : 3);
            int c = between(oneIn(9) ? -1 : 0, 3);
            same("hands", head.hands(a, b, c) ? 1 : 0, model.hands(a, b, c) ? 1 : 0);
        } else if (kind == 16) {
            same("done", head.done(), model.done());
        } else if (kind == 17) {
            int n = oneIn(8) ? between(-1, 21) : upTo(8);
            same("weeks", head.weeks(n), model.weeks(n));
        } else if (kind == 18) {
            same("redo", head.redo(row) ? 1 : 0, model.redo(row) ? 1 : 0);
        } else {
            prepare();
        }
    }

    private int strand(int row, int step, int what) {
        try {
            return head.strand(row, step, what);
        } catch (NoSuchElementException e) {
            return THROWN;
        }
    }

    private int dueStrand(int row, int step, int what) {
        try {
            return model.strand(row, step, what);
        } catch (NoSuchElementException e) {
            return THROWN;
        }
    }

    private int look(int x, int y, int what) {
        try {
            return head.look(x, y, what);
        } catch (NoSuchElementException e) {
            return THROWN;
        }
    }

    private int dueLook(int x, int y, int what) {
        try {
            return model.look(x, y, what);
        } catch (NoSuchElementException e) {
            return THROWN;
        }
    }

    private void ask() {
        int row = row();
        int step = step();
        int x = column();
        int y = lineNumber();
        int what = between(oneIn(9) ? -1 : 0, oneIn(5) ? 6 : 3);
        switch (upTo(14)) {
            case 0: same("region", head.region(x, y), model.region(x, y)); break;
            case 1: same("taken", head.taken(x, y), model.taken(x, y)); break;
            case 2: same("side", head.side(x, y, what), model.side(x, y, what)); break;
            case 3: same("row", head.row(row, step), model.row(row, step)); break;
            case 4: same("strand", strand(row, step, what), dueStrand(row, step, what)); break;
            case 5: same("pull", head.pull(row), model.pull(row)); break;
            case 6: same("even", head.even(row), model.even(row)); break;
            case 7: same("hangs", head.hangs(row), model.hangs(row)); break;
            case 8: same("look", look(x, y, what), dueLook(x, y, what)); break;
            case 9: same("work", head.work(row), model.work(row)); break;
            case 10: same("plan", head.plan(what), model.plan(what)); break;
            case 11: same("planned", head.planned(row), model.planned(row)); break;
            case 12: same("holds", head.holds(row), model.holds(row)); break;
            case 13: same("isOut", head.isOut(row), model.isOut(row)); break;
            default:
                int of = between(-1, 13);
                same("count " + of, head.count(of), model.count(of));
        }
    }

    private void run() {
        prepare();
        for (int n = 0; n < CALLS; n++) {
            if (oneIn(4)) {
                change();
            } else {
                ask();
            }
        }
    }

    private static int[] reached = new int[13];

    public static void main(String[] args) {
        for (int seed = 1; seed <= RUNS; seed++) {
            ModelTest test = new ModelTest(seed);
            test.run();
            for (int what = 0; what < reached.length; what++) {
                reached[what] = Math.max(reached[what], test.head.count(what));
            }
        }
        System.out.println("most reached of count 0 to 12: " + java.util.Arrays.toString(reached));
        Check.end("ModelTest");
    }
}
