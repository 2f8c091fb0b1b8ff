/** Terms 5, promises 17 to 27: a test for each sentence that names an edge. */
public final class WorkEdgesTest {
    private static final int[] WRONG_ROWS = {Integer.MIN_VALUE, -200, -1, 1, 2, 24, 200, Integer.MAX_VALUE};

    public static void main(String[] args) {
        mirrored();
        unlikeScalp();
        unlikeRow();
        unlikeLoose();
        lookNone();
        minutesForCells();
        tenthOfWeights();
        fiveForAdded();
        firstHands();
        speeds();
        handsRefused();
        noSuchHand();
        cutUpwards();
        oneBehindTheOther();
        firstEight();
        leastTime();
        leastHand();
        sitting();
        planNone();
        plannedNone();
        done();
        doneAtOnce();
        mostWeeks();
        weeksAtOnce();
        grown();
        holds();
        holdsMost();
        leastWeight();
        out();
        neverDone();
        redone();
        redoneJoined();
        redoneNone();
        countNone();
        Check.end("WorkEdgesTest");
    }

    private static void mirrored() {
        Check.edge("of a CELL in columns 0 to 7 and that in column 15 less its own");
        for (int column = 0; column < 16; column++) {
            HeadRows head = new HeadRows();
            head.cell(column, 4, HeadRows.NONE);
            for (int other = 0; other < 16; other++) {
                boolean isUnlike = other == column || other == 15 - column;
                Check.due("off " + column + ", unlike " + other, head.look(other, 4, 1), isUnlike ? 1 : 0);
            }
            Check.due("other lines", head.look(column, 3, 1) + head.look(column, 5, 1), 0);
            Check.due("pairs", head.count(4), 1);
        }
        HeadRows all = new HeadRows();
        for (int cell = 0; cell < 192; cell++) {
            if (cell % 16 < 8) {
                all.cell(cell % 16, cell / 16, HeadRows.NONE);
            }
        }
        Check.due("all pairs", all.count(4), 96);
    }

    private static void unlikeScalp() {
        Check.edge("they are UNLIKE if one is off the scalp and the other is not");
        HeadRows head = new HeadRows();
        head.cell(3, 4, HeadRows.NONE);
        Check.due("the left one off", head.look(3, 4, 1) + head.look(12, 4, 1), 2);
        head.cell(12, 4, HeadRows.NONE);
        Check.due("both off", head.look(3, 4, 1) + head.look(12, 4, 1), 0);
        Check.due("pairs", head.count(4), 0);
        head.cell(3, 4, 0);
        Check.due("the right one off", head.look(3, 4, 1) + head.look(12, 4, 1), 2);
        head.cell(12, 4, 99);
        Check.due("other hairs", head.look(3, 4, 1) + head.look(12, 4, 1), 0);
    }

    private static void unlikeRow() {
        Check.edge("one is of a ROW and the other is not");
        HeadRows head = new HeadRows();
        Check.drawn(head, "row 3 4 down 2 ;");
        Check.due("of the left one", head.look(3, 5, 1) + head.look(12, 5, 1), 2);
        Check.due("pairs", head.count(4), 3);
        Check.drawn(head, "row 11 4 right 1 ;");
        Check.due("of two rows", head.look(3, 4, 1) + head.look(12, 4, 1), 0);
        Check.due("of the right one", head.look(4, 4, 1) + head.look(11, 4, 1), 2);
        Check.due("pairs", head.count(4), 3);
        Check.drawn(head, "row 6 8 right 3 ;");
        Check.due("of one row", head.look(6, 8, 1) + head.look(7, 8, 1), 0);
        Check.due("pairs", head.count(4), 3);
    }

    private static void unlikeLoose() {
        Check.edge("one is LOOSE and the other is not.");
        HeadRows head = new HeadRows();
        Check.drawn(head, "part 0 1 right 2 up 1 ;");
        Check.due("all loose", head.count(4), 0);
        Check.drawn(head, "mirror ( row 4 4 down 1 ; ) ;");
        Check.due("loose and taken", head.look(0, 0, 1) + head.look(15, 0, 1), 2);
        Check.due("taken both", head.look(2, 0, 1) + head.look(13, 0, 1), 0);
        Check.due("taken by cells that are not mirrored", head.look(7, 0, 1), 0);
        Check.due("pairs", head.count(4), 2);
        Check.drawn(head, "part 16 1 left 2 up 1 ;");
        Check.due("loose both", head.look(0, 0, 1) + head.look(15, 0, 1), 0);
        Check.due("pairs", head.count(4), 0);
    }

    private static void lookNone() {
        Check.edge("0: hairs (NONE: off the scalp), 1: 1 if it is UNLIKE its mirrored one, else 0, 2: its ROW (NONE); NoSuchElementException: none such.");
        HeadRows head = new HeadRows();
        head.cell(5, 5, HeadRows.NONE);
        Check.drawn(head, "again 8 right 2 ( again 3 down 4 ( row 0 0 down 2 ; ) ; ) ;");
        Check.due("hairs off the scalp", head.look(5, 5, 0), HeadRows.NONE);
        Check.due("row off the scalp", head.look(5, 5, 2), HeadRows.NONE);
        Check.due("the first row", head.look(0, 2, 2), 0);
        Check.due("the last row", head.look(14, 10, 2), 23);
        Check.due("no row", head.look(15, 10, 2), HeadRows.NONE);
        int[][] none = {{-1, 0}, {16, 0}, {0, -1}, {0, 12}, {Integer.MIN_VALUE, 0}, {0, Integer.MAX_VALUE}, {0, 1 << 28}};
        for (int[] at : none) {
            for (int what = 0; what < 3; what++) {
                int of = what;
                Check.isNone("look " + at[0] + " " + at[1], () -> head.look(at[0], at[1], of));
            }
        }
        int[] whats = {Integer.MIN_VALUE, -1, 3, 4, Integer.MAX_VALUE};
        for (int what : whats) {
            Check.isNone("what " + what, () -> head.look(0, 0, what));
            Check.isNone("what " + what + " off the scalp", () -> head.look(5, 5, what));
        }
    }

    private static void minutesForCells() {
        Check.edge("WORK of a ROW: 2 MINUTES for each CELL");
        int[] some = {2, 3, 15, 16, 17, 18, 191, 192};
        for (int cells : some) {
            HeadRows head = Heads.bald();
            Check.drawn(head, Heads.snake(cells));
            Check.due("work of " + cells, head.work(0), 2 * cells);
            for (int row : WRONG_ROWS) {
                Check.due("work of row " + row, head.work(row), HeadRows.NONE);
            }
        }
        Check.due("work of no row", new HeadRows().work(0), HeadRows.NONE);
    }

    private static void tenthOfWeights() {
        Check.edge("a tenth of all its WEIGHTS behind the last step, cut");
        for (int hairs = 0; hairs <= 99; hairs++) {
            HeadRows head = Heads.strip(hairs, 0);
            Check.drawn(head, "row 3 5 right 1 ;");
            Check.due("work with " + hairs, head.work(0), 4 + hairs / 10);
        }
        // The strands' weights together, not each strand's tenth.
        HeadRows head = Heads.strip(9, 9, 9);
        Check.drawn(head, "row 3 5 right 2 ;");
        Check.due("27", head.work(0), 6 + 2);
        head.added(0, 2, 3, 100);
        Check.due("30 with what is added", head.work(0), 6 + 3 + 5);
    }

    private static void fiveForAdded() {
        Check.edge("5 for each time it was ADDED to.");
        HeadRows head = Heads.bald();
        Check.drawn(head, "row 0 0 right 1 ; row 0 2 right 1 ;");
        for (int n = 1; n <= 9; n++) {
            head.added(0, n % 2, 1, 20);
            Check.due("work behind " + n, head.work(0), 4 + 5 * n);
            Check.due("the other row", head.work(1), 4);
        }
        head.added(0, 0, 1, 20);
        Check.due("10 hairs", head.work(0), 4 + 1 + 50);
        head.added(1, 0, 99, 20);
        Check.due("99 hairs at once", head.work(1), 4 + 9 + 5);
        head.added(1, 0, 100, 20);
        Check.due("a wrong one", head.work(1), 4 + 9 + 5);
    }

    private static HeadRows threeRows() {
        HeadRows head = Heads.bald();
        Check.drawn(head, "row 0 0 right 2 ; row 0 1 right 2 ; row 0 2 right 2 ;");
        return head;
    }

    private static void planned(HeadRows head, int time, int... hands) {
        Check.due("time", head.plan(0), time);
        Check.due("rows", head.plan(2), hands.length);
        for (int row = 0; row < hands.length; row++) {
            Check.due("planned " + row, head.planned(row), hands[row]);
        }
    }

    private static void firstHands() {
        Check.edge("HANDS, 1 to 3 (one of speed 1 at first)");
        HeadRows head = threeRows();
        planned(head, 18, 0, 0, 0);
        head.hands(1, 1, 1);
        planned(head, 6, 0, 1, 2);
        head.hands(1, 1, 0);
        planned(head, 12, 0, 0, 1);
        head.hands(1, 0, 0);
        planned(head, 18, 0, 0, 0);
    }

    /** The least time of three rows of 6 minutes, all ways of sharing them looked at. */
    private static int leastOfThree(int... speeds) {
        int least = 1000;
        for (int code = 0; code < 27; code++) {
            int[] load = new int[3];
            boolean fits = true;
            for (int part = code, n = 0; n < 3; n++, part /= 3) {
                int hand = part % 3;
                fits &= speeds[hand] > 0;
                load[hand] += speeds[hand] > 0 ? 6 / speeds[hand] : 0;
            }
            if (fits) {
                least = Math.min(least, Math.max(load[0], Math.max(load[1], load[2])));
            }
        }
        return least;
    }

    private static void speeds() {
        Check.edge("have speeds 1 to 3");
        HeadRows head = threeRows();
        for (int a = 1; a <= 3; a++) {
            for (int b = 1; b <= 3; b++) {
                for (int c = 1; c <= 3; c++) {
                    Check.due("hands " + a + b + c, head.hands(a, b, c), true);
                    Check.due("time of " + a + b + c, head.plan(0), leastOfThree(a, b, c));
                }
                Check.due("hands " + a + b, head.hands(a, b, 0), true);
                Check.due("time of " + a + b, head.plan(0), leastOfThree(a, b, 0));
            }
            Check.due("hands " + a, head.hands(a, 0, 0), true);
            Check.due("time of " + a, head.plan(0), 18 / a);
        }
    }

    private static void handsRefused() {
        Check.edge("false: speeds above 3 or below 0, a first one of 0.");
        int[] some = {Integer.MIN_VALUE, -1, 0, 1, 3, 4, Integer.MAX_VALUE};
        for (int a : some) {
            for (int b : some) {
                for (int c : some) {
                    HeadRows head = new HeadRows();
                    boolean fits = a >= 1 && a <= 3 && b >= 0 && b <= 3 && c >= 0 && c <= 3;
                    Check.due("hands " + a + " " + b + " " + c, head.hands(a, b, c), fits);
                }
            }
        }
        HeadRows head = threeRows();
        Check.due("hands", head.hands(2, 1, 0), true);
        int time = head.plan(0);
        int[][] wrong = {{0, 1, 1}, {0, 0, 0}, {-1, 1, 1}, {4, 1, 1}, {1, 4, 1}, {1, -1, 1}, {1, 1, 4}, {1, 1, -1}};
        for (int[] w : wrong) {
            Check.due("refused", head.hands(w[0], w[1], w[2]), false);
            Check.due("time stays", head.plan(0), time);
        }
    }

    private static void noSuchHand() {
        Check.edge("(0: no such HAND; one behind such a one is none, too, whatever its speed)");
        for (int speed = 0; speed <= 3; speed++) {
            HeadRows head = threeRows();
            Check.due("hands 1 0 " + speed, head.hands(1, 0, speed), true);
            planned(head, 18, 0, 0, 0);
            Check.due("hands 1 1 1", head.hands(1, 1, 1), true);
            planned(head, 6, 0, 1, 2);
            Check.due("hands 3 0 " + speed, head.hands(3, 0, speed), true);
            planned(head, 6, 0, 0, 0);
        }
    }

    private static void cutUpwards() {
        Check.edge("a ROW takes its MINUTES / speed, cut upwards");
        int[][] due = {{4, 2, 2}, {5, 3, 2}, {6, 3, 2}, {7, 4, 3}, {8, 4, 3}, {9, 5, 3}, {10, 5, 4}, {11, 6, 4}, {12, 6, 4}, {13, 7, 5}};
        for (int[] minutes : due) {
            HeadRows head = Heads.strip(10 * (minutes[0] - 4), 0);
            Check.drawn(head, "row 3 5 right 1 ;");
            Check.due("minutes", head.work(0), minutes[0]);
            Check.due("time at speed 1", head.plan(0), minutes[0]);
            head.hands(2, 0, 0);
            Check.due("time at speed 2", head.plan(0), minutes[1]);
            head.hands(3, 0, 0);
            Check.due("time at speed 3", head.plan(0), minutes[2]);
        }
        // Each row for itself: 4 and 4 minutes at speed 3 take 2 and 2.
        HeadRows two = Heads.bald();
        Check.drawn(two, "row 0 0 right 1 ; row 0 2 right 1 ;");
        two.hands(3, 0, 0);
        Check.due("two rows", two.plan(0), 4);
    }

    private static void oneBehindTheOther() {
        Check.edge("each ROW is one HAND's, ROWS one behind the other.");
        HeadRows head = Heads.bald();
        Check.drawn(head, "row 0 0 right 9 ;");
        head.hands(1, 1, 1);
        planned(head, 20, 0);
        Check.drawn(head, "row 0 1 right 1 ; row 0 2 right 1 ; row 0 3 right 1 ; row 0 4 right 1 ; row 0 5 right 1 ;");
        planned(head, 20, 0, 1, 1, 1, 1, 1);
        head.hands(1, 0, 0);
        planned(head, 40, 0, 0, 0, 0, 0, 0);
    }

    private static void firstEight() {
        Check.edge("THE PLAN for the first 8 ROWS that are OUT or were never done");
        for (int rows = 1; rows <= 12; rows++) {
            HeadRows head = Heads.bald();
            for (int row = 0; row < rows; row++) {
                Check.drawn(head, "row 0 " + row + " right 1 ;");
            }
            Check.due("rows in the plan", head.plan(2), Math.min(8, rows));
            Check.due("time", head.plan(0), 4 * Math.min(8, rows));
            for (int row = 0; row < rows; row++) {
                Check.due("planned", head.planned(row), row < 8 ? 0 : HeadRows.NONE);
            }
        }
        // Three rows are done and hold one week, then nine more are drawn.
        HeadRows head = threeRows();
        Check.due("done", head.done(), 3);
        Check.due("none", head.plan(2), 0);
        for (int line = 3; line < 12; line++) {
            Check.drawn(head, "row 0 " + line + " right 1 ;");
        }
        Check.due("rows never done", head.plan(2), 8);
        Check.due("time", head.plan(0), 32);
        for (int row = 0; row < 12; row++) {
            Check.due("planned " + row, head.planned(row), row < 3 || row > 10 ? HeadRows.NONE : 0);
        }
        head.weeks(1);
        Check.due("three that are out, five never done", head.plan(0), 18 + 20);
        for (int row = 0; row < 12; row++) {
            Check.due("planned " + row, head.planned(row), row > 7 ? HeadRows.NONE : 0);
        }
        Check.due("redo", head.redo(1), true);
        Check.due("two that are out, six never done", head.plan(0), 12 + 24);
        Check.due("planned 1", head.planned(1), HeadRows.NONE);
        Check.due("planned 8", head.planned(8), 0);
        Check.due("planned 9", head.planned(9), HeadRows.NONE);
    }

    private static void leastTime() {
        Check.edge("the least time in which all is done");
        Check.due("no row", new HeadRows().plan(0), 0);
        // 12, 10, 8, 6, 4, 4, 4, 4 minutes: 52 in all, 26 for each of two, 18 for one of three.
        HeadRows head = Heads.bald();
        Check.drawn(head, "row 0 0 right 5 ; row 0 1 right 4 ; row 0 2 right 3 ; row 0 3 right 2 ; again 4 down 1 ( row 0 4 right 1 ; ) ;");
        Check.due("one hand", head.plan(0), 52);
        head.hands(1, 1, 0);
        Check.due("two hands", head.plan(0), 26);
        head.hands(1, 1, 1);
        Check.due("three hands", head.plan(0), 18);
        head.hands(3, 3, 3);
        // 4, 4, 3, 2, 2, 2, 2, 2 minutes are 21 in all, but 7 for each can't be: there is one odd one alone.
        Check.due("three fast hands", head.plan(0), 8);
    }

    private static void leastHand() {
        Check.edge("of equal ones that in which the first has the least HAND, then the second, and so on.");
        HeadRows head = Heads.bald();
        Check.drawn(head, "again 8 down 1 ( row 0 0 right 1 ; ) ;");
        head.hands(1, 1, 0);
        planned(head, 16, 0, 0, 0, 0, 1, 1, 1, 1);
        head.hands(1, 1, 1);
        planned(head, 12, 0, 0, 0, 1, 1, 1, 2, 2);
        head.hands(1, 3, 0);
        planned(head, 12, 0, 0, 0, 1, 1, 1, 1, 1);
        head.hands(1, 2, 3);
        planned(head, 8, 0, 0, 1, 1, 1, 1, 2, 2);
        HeadRows two = Heads.bald();
        Check.drawn(two, "row 0 0 right 1 ; row 0 1 right 3 ; row 0 2 right 1 ;");
        two.hands(1, 1, 0);
        planned(two, 8, 0, 1, 0);
        two.hands(1, 1, 1);
        planned(two, 8, 0, 1, 0);
        two.hands(2, 2, 2);
        planned(two, 4, 0, 1, 0);
        two.hands(1, 2, 0);
        planned(two, 6, 0, 1, 1);
        two.hands(1, 3, 0);
        planned(two, 5, 0, 1, 1);
        // The first has another hand than the least where that alone takes the least time.
        HeadRows late = Heads.bald();
        Check.drawn(late, "row 0 0 right 5 ; row 0 1 right 1 ; row 0 2 right 1 ;");
        late.hands(1, 3, 0);
        planned(late, 6, 1, 0, 1);
    }

    private static void sitting() {
        Check.edge("SITTING: that time, and 10 MINUTES of rest behind each full 60 that are not the end.");
        int[][] due = {{4, 4}, {59, 59}, {60, 60}, {61, 71}, {62, 72}, {118, 128}, {119, 129}, {120, 130}, {121, 141},
            {122, 142}, {179, 199}, {180, 200}, {181, 211}, {240, 270}, {241, 281}, {300, 340}, {301, 351}, {360, 410}};
        for (int[] pair : due) {
            HeadRows head = Heads.bald();
            // Ten hairs make one minute more.
            head.cell(0, 0, pair[0] % 2 == 0 ? 0 : 10);
            Check.drawn(head, Heads.snake(pair[0] / 2));
            Check.due("time", head.plan(0), pair[0]);
            Check.due("sitting of " + pair[0], head.plan(1), pair[1]);
        }
        Check.due("sitting of nothing", new HeadRows().plan(1), 0);
        // The time goes by the hands: 120 minutes at speed 2 are one full 60 at the end.
        HeadRows head = Heads.bald();
        Check.drawn(head, Heads.snake(60));
        head.hands(2, 0, 0);
        Check.due("time at speed 2", head.plan(0), 60);
        Check.due("sitting at speed 2", head.plan(1), 60);
    }

    private static void planNone() {
        Check.edge("THE PLAN, what 0: the time, 1: SITTING, 2: ROWS in it. NONE for another what.");
        HeadRows[] heads = {new HeadRows(), threeRows()};
        for (HeadRows head : heads) {
            int[] wrong = {Integer.MIN_VALUE, -1, 3, 4, Integer.MAX_VALUE};
            for (int what : wrong) {
                Check.due("plan " + what, head.plan(what), HeadRows.NONE);
            }
        }
        for (int what = 0; what < 3; what++) {
            Check.due("plan of no row", heads[0].plan(what), 0);
        }
        Check.due("time", heads[1].plan(0), 18);
        Check.due("sitting", heads[1].plan(1), 18);
        Check.due("rows", heads[1].plan(2), 3);
    }

    private static void plannedNone() {
        Check.edge("The HAND of a ROW in THE PLAN, as things are now; NONE: it is not in it, none such.");
        HeadRows head = Heads.bald();
        for (int row : WRONG_ROWS) {
            Check.due("planned of no row", head.planned(row), HeadRows.NONE);
        }
        Check.due("planned of no row", head.planned(0), HeadRows.NONE);
        Check.drawn(head, "row 0 0 right 1 ;");
        for (int row : WRONG_ROWS) {
            Check.due("planned of " + row, head.planned(row), HeadRows.NONE);
        }
        Check.due("planned 0", head.planned(0), 0);
        head.hands(1, 1, 0);
        Check.drawn(head, "row 0 1 right 1 ;");
        Check.due("a new row, a new hand", head.planned(1), 1);
        head.hands(3, 1, 0);
        Check.due("new hands", head.planned(1), 0);
        head.hands(1, 3, 0);
        Check.due("new hands", head.planned(0) * 10 + head.planned(1), 1);
        head.added(0, 0, 1, 100);
        Check.due("more work", head.planned(0), 1);
        Check.due("takeBack", head.takeBack(), 1);
        Check.due("away", head.planned(1), HeadRows.NONE);
        head.done();
        Check.due("done", head.planned(0), HeadRows.NONE);
        head.weeks(1);
        Check.due("out", head.planned(0), 1);
        head.redo(0);
        Check.due("redone", head.planned(0), HeadRows.NONE);
    }

    private static void done() {
        Check.edge("All ROWS are DONE: how many.");
        HeadRows head = new HeadRows();
        Check.due("none", head.done(), 0);
        Check.drawn(head, "again 8 right 2 ( again 3 down 2 ( row 0 0 down 1 ; ) ; ) ;");
        Check.due("24", head.done(), 24);
        Check.due("24 again", head.done(), 24);
        Check.due("takeBack", head.takeBack(), 24);
        Check.due("none", head.done(), 0);
    }

    private static void doneAtOnce() {
        Check.edge("DONE are all ROWS at once: they are of this WEEK then.");
        HeadRows head = Heads.bald();
        Check.drawn(head, "row 0 0 right 1 ;");
        Check.due("done in week 0", head.done(), 1);
        head.weeks(1);
        Check.due("out", head.isOut(0), 1);
        Check.drawn(head, "row 0 1 right 1 ;");
        Check.due("done in week 1", head.done(), 2);
        Check.due("both are of week 1", head.isOut(0) + head.isOut(1), 0);
        Check.due("plan", head.plan(2), 0);
        head.weeks(1);
        Check.due("both are out", head.isOut(0) + head.isOut(1), 2);
        Check.due("plan", head.plan(2), 2);
    }

    private static void mostWeeks() {
        Check.edge("WEEKS, 0 to 99");
        for (int week = 79; week <= 99; week++) {
            HeadRows head = new HeadRows();
            for (int n = 0; n < 4; n++) {
                head.weeks(n < 3 ? 20 : 19);
            }
            int more = week - 79;
            Check.due("weeks " + more, head.weeks(more), week);
            int left = 99 - week;
            if (left < 20) {
                Check.due("beyond 99", head.weeks(left + 1), HeadRows.NONE);
                Check.due("week stays", head.count(9), week);
                Check.due("length stays", head.count(10), 200 + 3 * week);
            }
            Check.due("up to 99", head.weeks(left), 99);
            Check.due("no more", head.weeks(1), HeadRows.NONE);
            Check.due("no more", head.weeks(20), HeadRows.NONE);
            Check.due("none goes by", head.weeks(0), 99);
            Check.due("count 9", head.count(9), 99);
        }
    }

    private static void weeksAtOnce() {
        Check.edge("n WEEKS go by (0 to 20): which it is; NONE for another n, beyond 99.");
        for (int n = 0; n <= 20; n++) {
            HeadRows head = new HeadRows();
            Check.due("weeks " + n, head.weeks(n), n);
            Check.due("and once more", head.weeks(n), 2 * n);
            Check.due("count 9", head.count(9), 2 * n);
        }
        int[] wrong = {Integer.MIN_VALUE, -20, -1, 21, 22, 99, 100, Integer.MAX_VALUE - 5, Integer.MAX_VALUE};
        for (int n : wrong) {
            HeadRows head = new HeadRows();
            head.weeks(20);
            Check.due("weeks " + n, head.weeks(n), HeadRows.NONE);
            Check.due("week stays", head.count(9), 20);
            Check.due("length stays", head.count(10), 260);
        }
    }

    private static void grown() {
        Check.edge("with each all hair of the head is 3 mm longer (2000 at most).");
        int[][] due = {{20, 23}, {1990, 1993}, {1996, 1999}, {1997, 2000}, {1998, 2000}, {1999, 2000}, {2000, 2000}};
        for (int[] pair : due) {
            HeadRows head = new HeadRows();
            head.length(pair[0]);
            head.weeks(0);
            Check.due("in week 0", head.count(10), pair[0]);
            head.weeks(1);
            Check.due(pair[0] + " in week 1", head.count(10), pair[1]);
            head.weeks(20);
            Check.due(pair[0] + " in week 21", head.count(10), Math.min(2000, pair[0] + 63));
        }
        HeadRows most = Heads.strip(9, 0);
        most.length(1999);
        Check.drawn(most, "row 3 5 right 1 ;");
        most.weeks(20);
        Check.due("hangs by 2000", most.hangs(0), 1990);
    }

    private static void holds() {
        Check.edge("the least WEIGHT of any STRAND at any step / 4, cut, and one more");
        for (int hairs = 0; hairs <= 99; hairs++) {
            HeadRows head = Heads.strip(hairs, 99);
            Check.drawn(head, "row 3 5 right 1 ;");
            // The right strand has a third at both steps.
            Check.due("holds with " + hairs, head.holds(0), Math.min(8, hairs / 3 / 4 + 1));
            for (int row : WRONG_ROWS) {
                Check.due("holds of " + row, head.holds(row), HeadRows.NONE);
            }
        }
        Check.due("holds of no row", new HeadRows().holds(0), HeadRows.NONE);
    }

    private static void holdsMost() {
        Check.edge("8 at most.");
        int[][] due = {{41, 7}, {42, 8}, {47, 8}, {48, 8}, {53, 8}, {54, 8}, {99, 8}};
        for (int[] pair : due) {
            // The first cell takes its own hair and that of the cell below: a third of both is in the right strand.
            HeadRows head = new HeadRows();
            head.cell(0, 0, pair[0]);
            head.cell(0, 1, pair[0]);
            Check.drawn(head, "part 0 2 right 1 up 1 right 1 up 1 ; row 0 0 right 1 ;");
            Check.due("T", head.strand(0, 0, 3), 2 * pair[0]);
            Check.due("holds with twice " + pair[0], head.holds(0), pair[1]);
        }
        HeadRows all = new HeadRows();
        Check.drawn(all, "row 0 0 right 1 ;");
        Check.due("of a whole head", all.holds(0), 8);
        all.done();
        all.weeks(7);
        Check.due("7 weeks", all.isOut(0), 0);
        all.weeks(1);
        Check.due("8 weeks", all.isOut(0), 1);
    }

    private static void leastWeight() {
        Check.edge("HOLDS so many WEEKS: the least WEIGHT of any STRAND at any step");
        HeadRows head = Heads.strip(36, 99, 99, 99);
        Check.drawn(head, "row 3 5 right 3 ;");
        Check.due("12 at its first step", head.holds(0), 4);
        head.added(0, 0, 99, 100);
        Check.due("more in the left one", head.holds(0), 4);
        head.added(0, 2, 99, 100);
        Check.due("more at a later step", head.holds(0), 4);
        HeadRows none = Heads.strip(2, 99, 99, 99);
        Check.drawn(none, "row 3 5 right 3 ;");
        Check.due("none in the right one at first", none.holds(0), 1);
        none.done();
        none.weeks(1);
        Check.due("out in a week", none.isOut(0), 1);
    }

    private static void out() {
        Check.edge("It is OUT as long as it was DONE so many WEEKS ago or more.");
        for (int hold = 1; hold <= 8; hold++) {
            HeadRows head = Heads.strip(12 * (hold - 1), 0);
            Check.drawn(head, "row 3 5 right 1 ;");
            Check.due("holds", head.holds(0), hold);
            Check.due("weeks ahead of it", head.weeks(3), 3);
            head.done();
            for (int week = 0; week <= 10; week++) {
                Check.due("holds " + hold + ", " + week + " weeks ago", head.isOut(0), week >= hold ? 1 : 0);
                Check.due("in the plan", head.plan(2), week >= hold ? 1 : 0);
                head.weeks(1);
            }
            head.weeks(20);
            Check.due("long ago", head.isOut(0), 1);
            head.done();
            Check.due("done anew", head.isOut(0), 0);
        }
    }

    private static void neverDone() {
        Check.edge("(ROWS that were never DONE are not OUT.)");
        HeadRows head = Heads.bald();
        Check.due("no row", head.isOut(0), HeadRows.NONE);
        Check.drawn(head, "row 0 0 right 1 ;");
        for (int n = 0; n < 4; n++) {
            Check.due("never done", head.isOut(0), 0);
            Check.due("not to be redone", head.redo(0), false);
            Check.due("but in the plan", head.plan(2), 1);
            head.weeks(20);
        }
        for (int row : WRONG_ROWS) {
            Check.due("isOut of " + row, head.isOut(row), HeadRows.NONE);
        }
        head.done();
        Check.drawn(head, "row 0 1 right 1 ;");
        head.weeks(1);
        Check.due("done", head.isOut(0), 1);
        Check.due("drawn behind that", head.isOut(1), 0);
    }

    private static void redone() {
        Check.edge("REDONE is one that is OUT and not JOINED: it is of this WEEK then.");
        HeadRows head = Heads.strip(12, 0);
        Check.drawn(head, "row 3 5 right 1 ;");
        Check.due("never done", head.redo(0), false);
        head.done();
        Check.due("0 weeks ago", head.redo(0), false);
        head.weeks(1);
        Check.due("1 week ago", head.redo(0), false);
        head.weeks(1);
        Check.due("2 weeks ago", head.redo(0), true);
        Check.due("of this week", head.isOut(0), 0);
        Check.due("once", head.redo(0), false);
        head.weeks(1);
        Check.due("a week on", head.isOut(0), 0);
        head.weeks(1);
        Check.due("two weeks on", head.isOut(0), 1);
        head.weeks(9);
        Check.due("long out", head.redo(0), true);
        Check.due("of this week", head.isOut(0), 0);
        HeadRows two = Heads.bald();
        Check.drawn(two, "row 0 0 right 1 ; row 0 1 right 1 ;");
        two.done();
        two.weeks(1);
        Check.due("the one alone", two.redo(1), true);
        Check.due("not the other", two.isOut(0) * 10 + two.isOut(1), 10);
    }

    private static void redoneJoined() {
        Check.edge("false: none such, not OUT, JOINED.");
        HeadRows head = Heads.bald();
        Check.drawn(head, "again 4 down 1 ( row 0 0 right 1 ; ) ;");
        Check.due("join", head.join(0, 1, 2), 1);
        head.done();
        head.weeks(1);
        for (int row = 0; row < 3; row++) {
            Check.due("joined", head.redo(row), false);
            Check.due("out still", head.isOut(row), 1);
        }
        Check.due("not joined", head.redo(3), true);
        Check.due("done all", head.done(), 4);
        Check.due("joined ones too", head.isOut(0) + head.isOut(1) + head.isOut(2), 0);
    }

    private static void redoneNone() {
        Check.edge("REDONE: true; false: none such");
        HeadRows head = Heads.bald();
        Check.due("no row", head.redo(0), false);
        Check.drawn(head, "row 0 0 right 1 ;");
        head.done();
        head.weeks(1);
        for (int row : WRONG_ROWS) {
            Check.due("redo of " + row, head.redo(row), false);
        }
        Check.due("out still", head.isOut(0), 1);
        Check.due("redo", head.redo(0), true);
    }

    private static void countNone() {
        Check.edge("12: times it was ADDED. NONE for another what.");
        HeadRows head = new HeadRows();
        int[] wrong = {Integer.MIN_VALUE, -2, -1, 13, 14, 100, Integer.MAX_VALUE};
        for (int what : wrong) {
            Check.due("count " + what, head.count(what), HeadRows.NONE);
        }
        head.cell(0, 0, HeadRows.NONE);
        head.cell(0, 1, 0);
        head.cell(0, 2, 99);
        head.length(300);
        Check.drawn(head, "part 0 4 right 1 up 1 left 1 ; row 5 5 right 1 ; row 5 6 right 1 ; row 5 7 right 1 ;");
        Check.drawn(head, "row 9 9 right 1 ;");
        Check.due("join", head.join(0, 1, 2), 1);
        Check.due("added", head.added(3, 0, 7, 100), 1);
        Check.due("added", head.added(3, 0, 8, 100), 2);
        head.weeks(4);
        Check.feed(head, "row x");
        // One cell alone is loose; unlike are the pairs of cell 0, of the loose one, of columns 5, 6 and 9.
        int hairs = 189 * 10 + 99;
        int[] due = {1, 4, 2, 1, 1 + 1 + 6 + 2, hairs, hairs - 10 + 15, 1, 2, 4, 312, 5, 2};
        for (int what = 0; what < due.length; what++) {
            Check.due("count " + what, head.count(what), due[what]);
        }
    }
}
