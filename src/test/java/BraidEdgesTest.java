import java.util.Arrays;

/** Terms 4 behind the ROWS, promises 8 and 11 to 16: a test for each sentence that names an edge. */
public final class BraidEdgesTest {
    private static final int[] WRONG_ROWS = {Integer.MIN_VALUE, -200, -1, 1, 2, 24, 200, Integer.MAX_VALUE};

    public static void main(String[] args) {
        takenInItsRegion();
        shortestWay();
        withinTheScalp();
        leastRow();
        firstOfEqual();
        loose();
        hairsTaken();
        leftOver();
        oddAndEven();
        behindTheStep();
        addedAtStepZero();
        keepsItsStep();
        pull();
        greatestAndLeast();
        atAnEdge();
        noEdge();
        addedNumbers();
        addedTimes();
        hangOfTheHead();
        hangOfAdded();
        reachAtLeastNothing();
        threeHairs();
        reachOrMore();
        noneReaches();
        joinedApart();
        joinedAlready();
        joinedNone();
        nineHairs();
        takenNone();
        strandNone();
        greatestPull();
        even();
        Check.end("BraidEdgesTest");
    }

    private static void takenInItsRegion() {
        Check.edge("each CELL on the scalp of a REGION with a ROW is TAKEN by the CELL of a ROW of that REGION");
        HeadRows head = new HeadRows();
        Check.drawn(head, "part 8 0 down 12 ; row 7 5 up 1 ; row 15 0 down 1 ;");
        Check.due("beside row 0, beyond the parting", head.taken(8, 5), 201);
        Check.due("farthest from row 0", head.taken(0, 11), 0);
        Check.due("farthest from row 1", head.taken(8, 11), 201);
        Check.due("loose", head.count(3), 0);
        // A row whose cells lie in two regions takes in each by the cells that are there.
        HeadRows both = new HeadRows();
        Check.drawn(both, "row 7 5 right 1 ;");
        Check.drawn(both, "part 8 0 down 12 ;");
        Check.due("in the left region", both.taken(7, 11) + both.taken(0, 0), 0);
        Check.due("in the right region", both.taken(8, 0), 1);
        Check.due("loose", both.count(3), 0);
        Check.due("T of each", both.strand(0, 0, 3) + both.strand(0, 1, 3), 1920);
        Check.due("T of the first", both.strand(0, 0, 3), 960);
        Check.due("it is there still", both.row(0, 1), 88);
    }

    private static void shortestWay() {
        Check.edge("to which the way over SIDES without a PARTING, within the scalp, is the shortest");
        HeadRows head = new HeadRows();
        Check.drawn(head, "row 0 5 right 1 ; row 6 5 right 1 ;");
        Check.due("2 from row 0, 3 from row 1", head.taken(3, 5), 1);
        Check.due("3 from row 0, 2 from row 1", head.taken(4, 5), 200);
        Check.drawn(head, "part 3 0 down 11 ;");
        Check.due("the way round is longer", head.taken(3, 5), 200);
        Check.due("up to the parting", head.taken(2, 5), 1);
        Check.due("below the gap: 8 from row 0, 9 from row 1", head.taken(3, 11), 1);
        Check.due("one on: 9 from row 0, 8 from row 1", head.taken(4, 11), 200);
        Check.due("a row takes its own cells", head.taken(6, 5) + head.taken(7, 5), 401);
    }

    private static void withinTheScalp() {
        Check.edge("within the scalp");
        HeadRows head = new HeadRows();
        for (int line = 0; line < 11; line++) {
            head.cell(2, line, HeadRows.NONE);
        }
        Check.drawn(head, "row 0 0 right 1 ; row 12 0 right 1 ;");
        Check.due("across the gap 2, around it 22", head.taken(3, 0), 200);
        Check.due("11 round the gap's end", head.taken(2, 11), 1);
        Check.due("off the scalp", head.taken(2, 5), HeadRows.NONE);
        Check.due("13 from row 0, 19 from row 1", head.taken(3, 10), 1);
    }

    private static void leastRow() {
        Check.edge("of equal ones by the ROW of least number");
        HeadRows head = new HeadRows();
        Check.drawn(head, "row 9 9 up 1 ; row 1 1 down 1 ; row 5 1 down 1 ;");
        Check.due("2 from row 1 and row 2", head.taken(3, 1), 200);
        Check.due("3 from row 1 and row 2", head.taken(3, 0), 200);
        Check.due("3 from row 1 and row 2, by their second cells", head.taken(3, 3), 201);
        Check.due("5 from row 0 and row 2", head.taken(7, 5), 1);
        Check.due("5 from row 0 and row 2", head.taken(8, 4), 1);
        Check.due("5 from row 0 and row 2", head.taken(6, 6), 1);
        Check.due("4 from row 2", head.taken(7, 4), 401);
        // Row 0 is found later than row 1 by who looks from the upper left on.
        HeadRows late = new HeadRows();
        Check.drawn(late, "row 10 10 right 1 ; row 4 4 left 1 ;");
        Check.due("6 from both", late.taken(7, 7) + late.taken(8, 6) + late.taken(6, 8), 0);
        Check.due("5 from row 1", late.taken(6, 7), 200);
        // Step by step the equal ones meet again further off.
        HeadRows chain = new HeadRows();
        Check.drawn(chain, "row 8 0 left 1 ; row 0 0 right 1 ;");
        Check.due("3 from both", chain.taken(4, 0), 1);
        Check.due("14 from both", chain.taken(4, 11), 1);
        Check.due("13 from row 1", chain.taken(3, 11), 201);
    }

    private static void firstOfEqual() {
        Check.edge("by the ROW of least number, then its first CELL.");
        HeadRows head = new HeadRows();
        Check.drawn(head, "row 6 4 down 3 left 4 up 3 ;");
        Check.due("2 from the first and the last", head.taken(4, 4), 0);
        Check.due("6 from the first and the last", head.taken(4, 0), 0);
        Check.due("2 from the second, the middle one and the last but one", head.taken(4, 5), 1);
        Check.due("1 from the middle one", head.taken(4, 6), 5);
        Check.due("above the first", head.taken(6, 0), 0);
        Check.due("above the last", head.taken(2, 0), 10);
        HeadRows bow = new HeadRows();
        Check.drawn(bow, "row 3 3 up 1 right 1 down 1 ;");
        Check.due("above both", bow.taken(3, 0) * 10 + bow.taken(4, 0), 12);
        HeadRows back = new HeadRows();
        Check.drawn(back, "row 9 9 left 2 down 1 right 2 ;");
        Check.due("right of both", back.taken(10, 9) * 10 + back.taken(10, 10), 5);
        HeadRows u = new HeadRows();
        Check.drawn(u, "row 4 0 down 2 left 4 up 2 ;");
        Check.due("2 from the first, the last and the one below", u.taken(2, 0), 0);
        Check.due("1 from the one below", u.taken(2, 1), 4);
    }

    private static void loose() {
        Check.edge("Others are LOOSE.");
        HeadRows head = new HeadRows();
        Check.due("all", head.count(3), 192);
        Check.drawn(head, "part 8 0 down 12 ;");
        Check.drawn(head, "row 0 0 right 1 ;");
        Check.due("of the region without a row", head.count(3), 96);
        Check.due("beside the parting", head.taken(8, 0), -2);
        Check.due("left of it", head.taken(7, 0), 1);
        Check.drawn(head, "row 15 11 up 1 ;");
        Check.due("none", head.count(3), 0);
        Check.due("takeBack", head.takeBack(), 1);
        Check.due("takeBack", head.takeBack(), 1);
        Check.due("all again", head.count(3), 192);
    }

    private static void hairsTaken() {
        Check.edge("T of a CELL of a ROW: all hairs of the CELLS that it TAKES.");
        HeadRows head = new HeadRows();
        head.cell(0, 0, 0);
        head.cell(1, 0, 99);
        head.cell(2, 0, HeadRows.NONE);
        head.cell(3, 0, 7);
        Check.drawn(head, "part 0 1 right 2 up 1 ; row 1 0 left 1 ; row 4 5 right 3 ;");
        Check.due("its own hair alone", head.strand(0, 0, 3), 99);
        Check.due("no hair", head.strand(0, 1, 3), 0);
        int sum = 0;
        for (int step = 0; step < 4; step++) {
            sum += head.strand(1, step, 3);
        }
        Check.due("all the others", sum, 188 * 10 + 7);
        Check.due("of the columns up to its first cell", head.strand(1, 0, 3), 10 * (5 * 12 - 4) + 7);
    }

    private static void leftOver() {
        Check.edge("at its first CELL (step 0) T is parted in three, what is left over to the left, then the middle one.");
        for (int hairs = 0; hairs <= 99; hairs++) {
            HeadRows head = Heads.strip(hairs, 0);
            Check.drawn(head, "row 3 5 right 1 ;");
            int third = hairs / 3;
            int over = hairs - 3 * third;
            Check.weights(head, 0, 0, third + (over >= 1 ? 1 : 0), third + (over == 2 ? 1 : 0), third);
        }
    }

    private static void oddAndEven() {
        Check.edge("at odd steps the left, at even ones the right STRAND takes T and what is ADDED there, then changes places with the middle one.");
        HeadRows head = Heads.strip(0, 1, 2, 4, 8, 16, 32, 64);
        Check.drawn(head, "row 3 5 right 7 ;");
        Check.weights(head, 0, 0, 0, 0, 0);
        Check.weights(head, 0, 1, 0, 1, 0);
        Check.weights(head, 0, 2, 0, 2, 1);
        Check.weights(head, 0, 3, 2, 4, 1);
        Check.weights(head, 0, 4, 2, 9, 4);
        Check.weights(head, 0, 5, 9, 18, 4);
        Check.weights(head, 0, 6, 9, 36, 18);
        Check.weights(head, 0, 7, 36, 73, 18);
        HeadRows added = Heads.strip(3, 0, 0, 0, 0);
        Check.drawn(added, "row 3 5 right 4 ;");
        Check.due("added at 1", added.added(0, 1, 10, 100), 1);
        Check.weights(added, 0, 1, 1, 11, 1);
        Check.weights(added, 0, 4, 1, 11, 1);
        Check.due("added at 2", added.added(0, 2, 20, 100), 2);
        Check.weights(added, 0, 2, 1, 21, 11);
        Check.weights(added, 0, 4, 21, 11, 1);
        Check.due("added at 3", added.added(0, 3, 40, 100), 3);
        Check.weights(added, 0, 3, 21, 41, 11);
        Check.weights(added, 0, 4, 21, 11, 41);
        Check.due("added at 4", added.added(0, 4, 80, 100), 4);
        Check.weights(added, 0, 4, 21, 91, 41);
    }

    private static void behindTheStep() {
        Check.edge("WEIGHTS are those behind a step.");
        HeadRows head = Heads.strip(9, 30);
        Check.drawn(head, "row 3 5 right 1 ;");
        Check.weights(head, 0, 0, 3, 3, 3);
        Check.weights(head, 0, 1, 3, 33, 3);
        Check.due("all behind the last", head.count(6), 39);
    }

    private static void addedAtStepZero() {
        Check.edge("(ADDED at step 0: to the left one.)");
        HeadRows head = Heads.strip(5, 0);
        Check.drawn(head, "row 3 5 right 1 ;");
        Check.due("added", head.added(0, 0, 1, 100), 1);
        Check.weights(head, 0, 0, 3, 2, 1);
        Check.weights(head, 0, 1, 2, 3, 1);
        Check.due("added", head.added(0, 0, 99, 100), 2);
        Check.weights(head, 0, 0, 102, 2, 1);
        Check.due("T", head.strand(0, 0, 3), 5);
    }

    private static void keepsItsStep() {
        Check.edge("Each hair keeps the step at which it was taken.");
        // The left one goes on with hair of steps 1 and 4, the right one of 2 and 5, the middle one of 3 and 6.
        HeadRows head = Heads.strip(0, 3, 3, 3, 3, 3, 3);
        Check.drawn(head, "row 3 5 right 6 ;");
        Check.due("hair of step 4", head.hangs(0), 180);
        HeadRows first = Heads.strip(0, 3, 3, 3, 0, 0, 0);
        Check.drawn(first, "row 3 5 right 6 ;");
        Check.due("hair of step 1", first.hangs(0), 150);
        HeadRows later = Heads.strip(0, 0, 3, 3, 3, 0, 0);
        Check.drawn(later, "row 3 5 right 6 ;");
        Check.due("hair of step 2", later.hangs(0), 160);
        HeadRows none = Heads.strip(0, 3, 0, 3, 3, 0, 3);
        Check.drawn(none, "row 3 5 right 6 ;");
        Check.due("none is taken at steps 2 and 5", none.hangs(0), 0);
    }

    private static void pull() {
        Check.edge("PULL at a step: the greatest WEIGHT less the least");
        // A row of a region of its own, away from all edges.
        HeadRows head = new HeadRows();
        int[] hairs = {2, 5, 0, 0, 9};
        for (int n = 0; n < 5; n++) {
            head.cell(4 + n, 5, hairs[n]);
        }
        Check.drawn(head, "part 4 5 right 5 down 1 left 5 up 1 ; row 4 5 right 4 ;");
        // 1 1 0; 1 6 0; 1 0 6; 0 1 6; 0 15 1: the least is the right, the right, the middle, the left, the left one.
        int[] due = {1, 6, 6, 6, 15};
        for (int step = 0; step < 5; step++) {
            Check.due("pull at " + step, head.strand(0, step, 4), due[step]);
        }
        Check.due("added at 0", head.added(0, 0, 30, 100), 1);
        Check.due("the greatest is the left one", head.strand(0, 0, 4), 31);
        Check.due("the greatest is the right one", head.strand(0, 2, 4), 36);
        HeadRows none = Heads.bald();
        Check.drawn(none, "row 5 5 right 2 ;");
        for (int step = 0; step < 3; step++) {
            Check.due("pull without a hair", none.strand(0, step, 4), 0);
        }
    }

    // 4 hairs at its first cell are 2, 1, 1; none behind.
    private static HeadRows thin() {
        HeadRows head = Heads.bald();
        head.cell(5, 5, 4);
        return head;
    }

    private static void greatestAndLeast() {
        Check.edge("doubled at an EDGE");
        HeadRows edge = thin();
        edge.cell(4, 5, HeadRows.NONE);
        Check.drawn(edge, "row 5 5 right 2 ;");
        Check.due("at an edge", edge.strand(0, 0, 4), 2);
        Check.due("behind it", edge.strand(0, 1, 4), 1);
        Check.due("the greatest", edge.pull(0), 2);
        HeadRows inner = thin();
        Check.drawn(inner, "row 5 5 right 2 ;");
        Check.due("not at an edge", inner.strand(0, 0, 4), 1);
        Check.due("the greatest", inner.pull(0), 1);
    }

    private static void atAnEdge() {
        Check.edge("an EDGE: a CELL with a SIDE to one that is off the scalp or the net.");
        for (int line = 0; line < 12; line++) {
            HeadRows head = new HeadRows();
            Check.drawn(head, "row 0 " + line + " right 15 ;");
            for (int step = 0; step < 16; step++) {
                boolean isEdge = line == 0 || line == 11 || step == 0 || step == 15;
                Check.due("edge of " + step + " " + line, head.strand(0, step, 5), isEdge ? 1 : 0);
            }
        }
        int[][] off = {{5, 4}, {5, 6}, {4, 5}, {6, 5}};
        for (int[] at : off) {
            HeadRows head = new HeadRows();
            head.cell(at[0], at[1], HeadRows.NONE);
            boolean isAcross = at[1] == 5;
            Check.drawn(head, isAcross ? "row 5 5 up 1 ;" : "row 5 5 right 1 ;");
            Check.due("beside what is off the scalp", head.strand(0, 0, 5), 1);
            Check.due("touching it at a corner alone", head.strand(0, 1, 5), 0);
        }
    }

    private static void noEdge() {
        Check.edge("5: 1 at an EDGE, else 0.");
        HeadRows head = new HeadRows();
        head.cell(4, 4, HeadRows.NONE);
        head.cell(6, 6, HeadRows.NONE);
        head.cell(7, 5, 0);
        Check.drawn(head, "part 5 5 right 1 down 1 ; row 5 5 left 1 ; row 9 8 right 1 ;");
        Check.due("two corners off and two partings", head.strand(0, 0, 5), 0);
        Check.due("below what is off", head.strand(0, 1, 5), 1);
        Check.drawn(head, "row 6 5 up 1 ;");
        Check.due("above what is off", head.strand(2, 0, 5), 1);
        Check.due("beside a cell without hair", head.strand(2, 1, 5), 0);
        Check.due("far from all", head.strand(1, 0, 5) + head.strand(1, 1, 5), 0);
    }

    private static void addedNumbers() {
        Check.edge("ADDED hair: to a ROW at a step so many (1 to 99), so long (20 to 2000 mm)");
        HeadRows head = Heads.strip(9, 9);
        Check.drawn(head, "row 3 5 right 1 ;");
        int[][] wrong = {{0, 100}, {-1, 100}, {100, 100}, {Integer.MIN_VALUE, 100}, {Integer.MAX_VALUE, 100}, {1, 19}, {1, 0},
            {1, -20}, {1, 2001}, {1, Integer.MIN_VALUE}, {1, Integer.MAX_VALUE}, {0, 19}, {100, 2001}};
        for (int[] w : wrong) {
            Check.due("added " + w[0] + " of " + w[1], head.added(0, 0, w[0], w[1]), HeadRows.NONE);
        }
        Check.due("none was added", head.count(12), 0);
        Check.due("weights", head.count(6), 18);
        int[][] fine = {{1, 20}, {1, 2000}, {99, 20}, {99, 2000}, {50, 21}, {2, 1999}};
        int weights = 18;
        for (int n = 0; n < fine.length; n++) {
            Check.due("added " + fine[n][0] + " of " + fine[n][1], head.added(0, n % 2, fine[n][0], fine[n][1]), n + 1);
            weights += fine[n][0];
            Check.due("weights", head.count(6), weights);
        }
        int[] steps = {-1, 2, 3, Integer.MIN_VALUE, Integer.MAX_VALUE};
        for (int step : steps) {
            Check.due("added at step " + step, head.added(0, step, 1, 100), HeadRows.NONE);
        }
        for (int row : WRONG_ROWS) {
            Check.due("added to row " + row, head.added(row, 0, 1, 100), HeadRows.NONE);
        }
        Check.due("count 12", head.count(12), fine.length);
    }

    private static void addedTimes() {
        Check.edge("60 times at most.");
        HeadRows head = new HeadRows();
        Check.drawn(head, "row 0 0 right 1 ; row 0 2 right 2 ; row 0 4 right 3 ;");
        for (int n = 1; n <= 59; n++) {
            Check.due("added", head.added(n % 3, n % 2, 2, 100), n);
        }
        Check.due("a wrong one does not count", head.added(0, 2, 2, 100), HeadRows.NONE);
        Check.due("the 60th", head.added(2, 3, 2, 100), 60);
        int weights = head.count(6);
        int work = head.work(2);
        for (int row = 0; row < 3; row++) {
            Check.due("the 61st", head.added(row, 1, 1, 100), HeadRows.NONE);
        }
        Check.due("count 12", head.count(12), 60);
        Check.due("weights", head.count(6), weights);
        Check.due("weights of 60 times 2 hairs", weights, 1920 + 120);
        Check.due("work", head.work(2), work);
    }

    private static void hangOfTheHead() {
        Check.edge("behind its last CELL a hair of the head reaches still: length - 10 * (last step - its step)");
        for (int cells = 2; cells <= 13; cells++) {
            HeadRows head = Heads.strip(Arrays.copyOf(new int[] {9}, cells));
            Check.drawn(head, "row 3 5 right " + (cells - 1) + " ;");
            Check.due("hair of step 0 in a row of " + cells, head.hangs(0), 200 - 10 * (cells - 1));
        }
        HeadRows last = Heads.strip(0, 3, 3, 3);
        last.length(50);
        Check.drawn(last, "row 3 5 right 3 ;");
        Check.due("hair of steps 1, 2, 3", last.hangs(0), 30);
        Check.due("a week on", last.weeks(1), 1);
        Check.due("longer by 3", last.hangs(0), 33);
        HeadRows longest = Heads.strip(9, 0);
        longest.length(2000);
        Check.drawn(longest, "row 3 5 right 1 ;");
        Check.due("of 2000", longest.hangs(0), 1990);
    }

    private static void hangOfAdded() {
        Check.edge("ADDED: its own length less likewise");
        HeadRows head = Heads.strip(0, 0, 0, 0);
        Check.drawn(head, "row 3 5 right 3 ;");
        Check.due("none", head.hangs(0), 0);
        head.added(0, 1, 3, 100);
        head.added(0, 2, 3, 100);
        Check.due("two strands", head.hangs(0), 0);
        head.added(0, 3, 3, 100);
        Check.due("80, 90, 100", head.hangs(0), 80);
        head.added(0, 0, 3, 115);
        Check.due("85, 90, 100", head.hangs(0), 85);
        head.added(0, 1, 3, 2000);
        Check.due("1980, 90, 100", head.hangs(0), 90);
        head.added(0, 2, 3, 2000);
        Check.due("1980, 1990, 100", head.hangs(0), 100);
        head.added(0, 3, 3, 2000);
        Check.due("1980, 1990, 2000", head.hangs(0), 1980);
        head.weeks(20);
        Check.due("it does not grow", head.hangs(0), 1980);
        // Three hairs of 2000 at the last three steps.
        HeadRows three = Heads.strip(0, 0);
        Check.drawn(three, "row 3 5 right 1 ;");
        three.added(0, 1, 99, 2000);
        Check.due("one strand alone", three.hangs(0), 0);
    }

    private static void reachAtLeastNothing() {
        Check.edge("0 at least.");
        for (int cells = 2; cells <= 13; cells++) {
            HeadRows head = Heads.strip(Arrays.copyOf(new int[] {9}, cells));
            head.length(95);
            Check.drawn(head, "row 3 5 right " + (cells - 1) + " ;");
            Check.due("of 95 in a row of " + cells, head.hangs(0), Math.max(0, 95 - 10 * (cells - 1)));
        }
        int[][] due = {{28, 0}, {29, 0}, {30, 0}, {31, 1}, {32, 2}};
        for (int[] pair : due) {
            HeadRows head = Heads.strip(9, 0, 0, 0);
            head.length(pair[0]);
            Check.drawn(head, "row 3 5 right 3 ;");
            Check.due("of " + pair[0], head.hangs(0), pair[1]);
            HeadRows added = Heads.strip(0, 0, 3, 3);
            Check.drawn(added, "row 3 5 right 3 ;");
            added.added(0, 0, 3, pair[0]);
            Check.due("added of " + pair[0], added.hangs(0), pair[1]);
        }
        HeadRows joined = new HeadRows();
        joined.length(20);
        Check.drawn(joined, "part 0 1 right 5 up 1 ; part 0 2 right 5 up 1 ; row 0 0 right 4 ; row 0 1 right 4 ; row 5 2 up 1 ;");
        joined.join(0, 1, 2);
        Check.due("joined", joined.hangs(0), 20);
        HeadRows none = Heads.bald();
        none.length(20);
        none.cell(0, 0, 9);
        none.cell(0, 1, 9);
        none.cell(0, 2, 9);
        Check.drawn(none, "row 0 0 right 4 ; row 0 1 right 4 ; row 0 2 right 4 ;");
        none.join(0, 1, 2);
        Check.due("joined with hair that reaches no more", none.hangs(1), 0);
    }

    private static void threeHairs() {
        Check.edge("for which each STRAND has 3 hairs at least that reach t or more");
        // 3, 3, 2: the right one takes at step 2.
        HeadRows right = Heads.strip(8, 0, 1, 0);
        Check.drawn(right, "row 3 5 right 3 ;");
        Check.due("the third hair of the right one", right.hangs(0), 170);
        HeadRows less = Heads.strip(8, 1, 0, 1);
        Check.drawn(less, "row 3 5 right 3 ;");
        Check.due("two hairs in the right one", less.hangs(0), 0);
        // 3, 2, 2: the middle one takes at step 3.
        HeadRows middle = Heads.strip(7, 0, 1, 1);
        Check.drawn(middle, "row 3 5 right 3 ;");
        Check.due("the third hair of the middle one", middle.hangs(0), 170);
        HeadRows lacking = Heads.strip(7, 1, 9, 0);
        Check.drawn(lacking, "row 3 5 right 3 ;");
        Check.due("two hairs in the middle one", lacking.hangs(0), 0);
        // The left one takes at step 1 and is the least without it.
        HeadRows left = Heads.strip(0, 3, 3, 3, 0);
        Check.drawn(left, "row 3 5 right 4 ;");
        Check.due("three in each", left.hangs(0), 170);
        HeadRows two = Heads.strip(0, 2, 3, 3, 0);
        Check.drawn(two, "row 3 5 right 4 ;");
        Check.due("two in the left one", two.hangs(0), 0);
        two.added(0, 4, 1, 20);
        Check.due("a third one of 20", two.hangs(0), 20);
        int[] nine = {8, 9};
        for (int hairs : nine) {
            HeadRows head = Heads.strip(hairs, 0);
            Check.drawn(head, "row 3 5 right 1 ;");
            Check.due("of " + hairs, head.hangs(0), hairs == 9 ? 190 : 0);
        }
    }

    private static void reachOrMore() {
        Check.edge("as far as the greatest t for which each STRAND has 3 hairs at least that reach t or more");
        // In the left one: one that reaches 300, one 250, one 230, the others 190.
        HeadRows head = Heads.strip(99, 99);
        Check.drawn(head, "row 3 5 right 1 ;");
        Check.due("190", head.hangs(0), 190);
        HeadRows one = Heads.strip(0, 0, 0, 0);
        Check.drawn(one, "row 3 5 right 3 ;");
        one.added(0, 2, 3, 1010);
        one.added(0, 3, 3, 1000);
        one.added(0, 1, 1, 320);
        one.added(0, 1, 1, 270);
        Check.due("two hairs", one.hangs(0), 0);
        one.added(0, 0, 1, 260);
        Check.due("300, 250, 230", one.hangs(0), 230);
        one.added(0, 1, 1, 255);
        Check.due("300, 250, 235, 230", one.hangs(0), 235);
        one.added(0, 1, 1, 270);
        Check.due("300, 250, 250, 235", one.hangs(0), 250);
        one.added(0, 1, 9, 260);
        Check.due("more that reach less", one.hangs(0), 250);
        one.added(0, 1, 2, 1020);
        Check.due("1000, 1000, 300", one.hangs(0), 300);
        one.added(0, 1, 1, 1019);
        Check.due("1000, 1000, 999", one.hangs(0), 999);
        one.added(0, 0, 1, 2000);
        Check.due("1970, 1000, 1000 and 1000 in the others", one.hangs(0), 1000);
    }

    private static void noneReaches() {
        Check.edge("0 if none is.");
        HeadRows bald = Heads.bald();
        Check.drawn(bald, "row 0 0 right 1 ;");
        Check.due("no hair", bald.hangs(0), 0);
        HeadRows few = Heads.strip(8, 99);
        Check.drawn(few, "row 3 5 right 1 ;");
        Check.due("two in the right one", few.hangs(0), 0);
    }

    private static void joinedApart() {
        Check.edge("JOINED are three ROWS whose last CELLS are each at most 2 columns and 2 lines apart from both others");
        for (int across = -3; across <= 3; across++) {
            for (int down = -3; down <= 3; down++) {
                if (across != 0 || down < -1 || down > 1) {
                    askJoin(across, down);
                }
            }
        }
        // Each is near the next, but the first and the third are not.
        HeadRows chain = new HeadRows();
        Check.drawn(chain, "row 3 3 up 1 ; row 5 3 up 1 ; row 7 3 up 1 ;");
        Check.due("4 columns from the first to the third", chain.join(0, 1, 2), HeadRows.NONE);
        Check.due("in another order", chain.join(1, 0, 2) + chain.join(2, 0, 1) + chain.join(0, 2, 1), -3);
        // It is the last cells that count.
        HeadRows first = new HeadRows();
        Check.drawn(first, "row 3 3 up 3 ; row 4 3 down 3 ; row 5 3 right 4 ;");
        Check.due("their first cells are near", first.join(0, 1, 2), HeadRows.NONE);
        HeadRows last = new HeadRows();
        Check.drawn(last, "row 3 0 down 3 ; row 4 6 up 3 ; row 9 3 left 4 ;");
        Check.due("their last cells are near", last.join(0, 1, 2), 1);
        // Neither a parting nor the end of a line makes them near or far.
        HeadRows parted = new HeadRows();
        Check.drawn(parted, "part 5 0 down 12 ; row 4 3 up 1 ; row 5 3 up 1 ; row 6 3 up 1 ;");
        Check.due("across a parting", parted.join(0, 1, 2), 1);
        HeadRows lines = new HeadRows();
        Check.drawn(lines, "row 15 3 up 1 ; row 0 4 up 1 ; row 1 4 up 1 ;");
        Check.due("at both ends of two lines", lines.join(0, 1, 2), HeadRows.NONE);
    }

    // Two rows end at (7, 5) and (7, 6), the third one so far across and down from the first.
    private static void askJoin(int across, int down) {
        int column = 7 + across;
        int line = 5 + down;
        boolean isNear = Math.abs(across) <= 2 && Math.abs(down) <= 2 && Math.abs(down - 1) <= 2;
        String third = "row " + column + " " + (down < 0 ? line - 1 : line + 1) + (down < 0 ? " down 1 ;" : " up 1 ;");
        String two = across > 0 ? "row 6 5 right 1 ; row 6 6 right 1 ;" : "row 8 5 left 1 ; row 8 6 left 1 ;";
        int[][] orders = {{0, 1, 2}, {0, 2, 1}, {2, 0, 1}};
        for (int[] of : orders) {
            HeadRows head = new HeadRows();
            Check.drawn(head, two + third);
            int told = head.join(of[0], of[1], of[2]);
            Check.due("join of one " + across + " " + down + " apart", told, isNear ? 1 : HeadRows.NONE);
            Check.due("joins", head.count(7), isNear ? 1 : 0);
        }
    }

    private static HeadRows sevenNear() {
        HeadRows head = new HeadRows();
        Check.drawn(head, "row 5 0 down 3 ; row 6 2 down 1 ; row 7 2 down 1 ; row 5 5 up 1 ; row 6 5 up 1 ; row 7 5 up 1 ; row 4 5 right 0 up 1 ;");
        return head;
    }

    private static void joinedAlready() {
        Check.edge("none JOINED already");
        HeadRows head = sevenNear();
        Check.due("join", head.join(0, 1, 2), 1);
        for (int joined = 0; joined < 3; joined++) {
            Check.due("first joined", head.join(joined, 3, 4), HeadRows.NONE);
            Check.due("second joined", head.join(3, joined, 4), HeadRows.NONE);
            Check.due("third joined", head.join(3, 4, joined), HeadRows.NONE);
        }
        Check.due("the same again", head.join(0, 1, 2), HeadRows.NONE);
        Check.due("joins", head.count(7), 1);
        Check.due("the others", head.join(3, 4, 5), 2);
        Check.due("joins", head.count(7), 2);
        Check.due("one is left", head.join(6, 3, 4), HeadRows.NONE);
        // As many joins as there can be.
        HeadRows most = new HeadRows();
        Check.drawn(most, "again 4 down 3 ( again 6 right 2 ( row 0 0 down 1 ; ) ; ) ;");
        int joins = 0;
        for (int row = 0; row < 6; row++) {
            // Ends are 2 columns or 3 lines apart: no three are near.
            Check.due("no three", most.join(row, row + 6, row + 12), HeadRows.NONE);
        }
        HeadRows eight = new HeadRows();
        Check.drawn(eight, "again 2 down 2 ( again 8 right 1 ( row 0 0 down 1 ; ) ; ) ; again 8 right 1 ( row 0 4 down 1 ; ) ;");
        int[][] threes = {{0, 1, 2}, {3, 4, 5}, {6, 7, 15}, {8, 9, 10}, {11, 12, 13}, {14, 22, 23}, {16, 17, 18}, {19, 20, 21}};
        for (int[] three : threes) {
            joins++;
            Check.due("join", eight.join(three[0], three[1], three[2]), joins);
        }
        Check.due("joins", eight.count(7), 8);
    }

    private static void joinedNone() {
        Check.edge("JOINED: how many JOINS there are; NONE: no such three ROWS, two alike, JOINED, too far apart.");
        HeadRows head = sevenNear();
        int[] none = {Integer.MIN_VALUE, -1, 7, 24, Integer.MAX_VALUE};
        for (int row : none) {
            Check.due("join of " + row, head.join(row, 1, 2), HeadRows.NONE);
            Check.due("join of " + row, head.join(1, row, 2), HeadRows.NONE);
            Check.due("join of " + row, head.join(1, 2, row), HeadRows.NONE);
        }
        Check.due("alike", head.join(1, 1, 2), HeadRows.NONE);
        Check.due("alike", head.join(1, 2, 1), HeadRows.NONE);
        Check.due("alike", head.join(2, 1, 1), HeadRows.NONE);
        Check.due("alike", head.join(1, 1, 1), HeadRows.NONE);
        Check.due("joins", head.count(7), 0);
        Check.due("not joined by that", head.join(2, 1, 0), 1);
        Check.due("no row at all", new HeadRows().join(0, 1, 2), HeadRows.NONE);
        // No row is near to where none is: beside cell 0.
        HeadRows corner = new HeadRows();
        Check.drawn(corner, "row 1 0 left 1 ; row 1 1 left 1 ;");
        for (int row : none) {
            Check.due("no such row", corner.join(0, 1, row), HeadRows.NONE);
            Check.due("no such row", corner.join(0, row, 1), HeadRows.NONE);
            Check.due("no such row", corner.join(row, 0, 1), HeadRows.NONE);
            Check.due("no such two rows", corner.join(row, 2, 1), HeadRows.NONE);
        }
        Check.due("joins", corner.count(7), 0);
    }

    private static void nineHairs() {
        Check.edge("as far as the greatest t for which each of the three has 9 hairs at least that reach t or more.");
        for (int few = 0; few < 3; few++) {
            HeadRows head = Heads.bald();
            for (int row = 0; row < 3; row++) {
                head.cell(0, 2 * row, row == few ? 8 : 9);
            }
            Check.drawn(head, "again 3 down 2 ( row 0 0 down 1 ; ) ;");
            Check.due("alone", head.hangs((few + 1) % 3), 190);
            Check.due("join too far", head.join(0, 1, 2), HeadRows.NONE);
            HeadRows near = Heads.bald();
            for (int row = 0; row < 3; row++) {
                near.cell(row, 0, row == few ? 8 : 9);
            }
            Check.drawn(near, "again 3 right 1 ( row 0 0 down 1 ; ) ;");
            Check.due("alone", near.hangs((few + 1) % 3), 190);
            Check.due("join", near.join(0, 1, 2), 1);
            for (int row = 0; row < 3; row++) {
                Check.due("8 hairs in one of the three", near.hangs(row), 0);
            }
            near.added(few, 1, 1, 20);
            for (int row = 0; row < 3; row++) {
                Check.due("the ninth reaches 20", near.hangs(row), 20);
            }
            near.added(few, 0, 1, 100);
            Check.due("another reaches 90", near.hangs(few), 90);
            near.added(few, 1, 9, 2000);
            Check.due("the others have 9", near.hangs(few), 190);
        }
        // Nine hairs in one strand alone are enough.
        HeadRows one = Heads.bald();
        Check.drawn(one, "again 3 right 1 ( row 0 0 down 1 ; ) ;");
        one.join(0, 1, 2);
        for (int row = 0; row < 3; row++) {
            Check.due("no hair", one.hangs(0), 0);
            one.added(row, 1, 9, 50 + row);
        }
        Check.due("50, 51, 52", one.hangs(2), 50);
        Check.due("a row of two joins hangs by its own", sevenNear().hangs(6) > 0, true);
    }

    private static void takenNone() {
        Check.edge("200 * ROW + step; -2: LOOSE; NONE: no such CELL, off the scalp.");
        HeadRows head = new HeadRows();
        head.cell(5, 5, HeadRows.NONE);
        Check.due("loose", head.taken(6, 5), -2);
        Check.drawn(head, "again 8 right 2 ( again 3 down 4 ( row 0 0 down 3 ; ) ; ) ;");
        Check.due("off the scalp", head.taken(5, 5), HeadRows.NONE);
        Check.due("the last row's last cell", head.taken(14, 11), 200 * 23 + 3);
        Check.due("the cell beside it", head.taken(15, 11), 200 * 23 + 3);
        Check.due("the first row's first cell", head.taken(0, 0), 0);
        int[][] none = {{-1, 0}, {16, 0}, {0, -1}, {0, 12}, {Integer.MIN_VALUE, 0}, {0, Integer.MAX_VALUE}, {0, 1 << 28}};
        for (int[] at : none) {
            Check.due("taken " + at[0] + " " + at[1], head.taken(at[0], at[1]), HeadRows.NONE);
        }
    }

    private static void strandNone() {
        Check.edge("NoSuchElementException: none such.");
        HeadRows head = Heads.strip(7, 4);
        Check.isNone("no row yet", () -> head.strand(0, 0, 0));
        Check.drawn(head, "row 3 5 right 1 ;");
        for (int what = 0; what < 6; what++) {
            int of = what;
            for (int row : WRONG_ROWS) {
                Check.isNone("row " + row, () -> head.strand(row, 0, of));
            }
            int[] steps = {Integer.MIN_VALUE, -1, 2, 3, 192, Integer.MAX_VALUE};
            for (int step : steps) {
                Check.isNone("step " + step, () -> head.strand(0, step, of));
            }
        }
        HeadRows two = new HeadRows();
        Check.drawn(two, "row 3 5 right 1 ; row 3 7 right 1 ;");
        for (int what = 0; what < 6; what++) {
            int of = what;
            Check.isNone("ahead of the second row", () -> two.strand(1, -1, of));
            Check.isNone("behind the first row", () -> two.strand(0, 2, of));
        }
        Check.due("added ahead of the second row", two.added(1, -1, 1, 100), HeadRows.NONE);
        Check.due("added behind the first row", two.added(0, 2, 1, 100), HeadRows.NONE);
        int[] whats = {Integer.MIN_VALUE, -1, 6, 7, Integer.MAX_VALUE};
        for (int what : whats) {
            Check.isNone("what " + what, () -> head.strand(0, 0, what));
            Check.isNone("what " + what, () -> head.strand(0, 1, what));
        }
        int[] due = {2, 7, 2, 4, 10, 1};
        for (int what = 0; what < 6; what++) {
            Check.due("what " + what, head.strand(0, 1, what), due[what]);
        }
    }

    private static void greatestPull() {
        Check.edge("The greatest PULL of a ROW; NONE: none such.");
        // 4 hairs, then none: 1, doubled at the edge, at its first, a middle, its last cell.
        int[][] off = {{5, 4}, {6, 4}, {7, 4}};
        for (int[] at : off) {
            HeadRows head = thin();
            head.cell(at[0], at[1], HeadRows.NONE);
            Check.drawn(head, "row 5 5 right 2 ;");
            Check.due("greatest pull", head.pull(0), 2);
        }
        HeadRows bald = Heads.bald();
        Check.drawn(bald, "row 5 5 right 2 ;");
        Check.due("no pull", bald.pull(0), 0);
        for (int row : WRONG_ROWS) {
            Check.due("pull of " + row, bald.pull(row), HeadRows.NONE);
            Check.due("hangs of " + row, bald.hangs(row), HeadRows.NONE);
        }
        Check.due("pull of no row", new HeadRows().pull(0), HeadRows.NONE);
        Check.due("hangs of no row", new HeadRows().hangs(0), HeadRows.NONE);
    }

    private static void even() {
        Check.edge("The greatest T of a ROW less the least; NONE: none such.");
        int[][] due = {{5, 5, 5, 0}, {9, 5, 5, 4}, {5, 9, 5, 4}, {5, 5, 9, 4}, {1, 5, 5, 4}, {5, 1, 5, 4}, {5, 5, 1, 4},
            {0, 99, 0, 99}, {99, 0, 50, 99}, {1, 2, 3, 2}, {3, 2, 1, 2}};
        for (int[] t : due) {
            HeadRows head = Heads.strip(t[0], t[1], t[2]);
            Check.drawn(head, "row 3 5 right 2 ;");
            Check.due("even of " + t[0] + " " + t[1] + " " + t[2], head.even(0), t[3]);
            head.added(0, 1, 99, 100);
            Check.due("added hair is not of T", head.even(0), t[3]);
        }
        HeadRows head = new HeadRows();
        Check.due("even of no row", head.even(0), HeadRows.NONE);
        Check.drawn(head, "row 3 5 right 2 ;");
        for (int row : WRONG_ROWS) {
            Check.due("even of " + row, head.even(row), HeadRows.NONE);
        }
    }
}
