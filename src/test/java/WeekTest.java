/** Promises 22 (done), 23 (weeks), 24 (holds), 25 (isOut), 26 (redo), 27 (count). */
public final class WeekTest {
    public static void main(String[] args) {
        weeks();
        growing();
        holding();
        out();
        outByChange();
        redone();
        counts();
        Check.end("WeekTest");
    }

    /** Rows in line 0 and line 2, each in a region of two cells with so many hairs each. */
    private static HeadRows pairs(int first, int second) {
        HeadRows head = new HeadRows();
        head.cell(0, 0, first);
        head.cell(1, 0, first);
        head.cell(0, 2, second);
        head.cell(1, 2, second);
        Check.drawn(head, "part 0 1 right 2 up 1 ; part 0 2 right 2 down 1 left 2 ; row 0 0 right 1 ; row 0 2 right 1 ;");
        return head;
    }

    private static void weeks() {
        HeadRows head = new HeadRows();
        Check.due("weeks -1", head.weeks(-1), HeadRows.NONE);
        Check.due("weeks 21", head.weeks(21), HeadRows.NONE);
        Check.due("weeks MAX", head.weeks(Integer.MAX_VALUE), HeadRows.NONE);
        Check.due("weeks 0", head.weeks(0), 0);
        for (int n = 1; n <= 4; n++) {
            Check.due("weeks 20", head.weeks(20), 20 * n);
        }
        Check.due("weeks 20", head.weeks(20), HeadRows.NONE);
        Check.due("count 9", head.count(9), 80);
        Check.due("weeks 19", head.weeks(19), 99);
        Check.due("weeks 1", head.weeks(1), HeadRows.NONE);
        Check.due("weeks 0", head.weeks(0), 99);
        Check.due("count 10", head.count(10), 200 + 3 * 99);
    }

    private static void growing() {
        HeadRows head = new HeadRows();
        head.length(1995);
        head.weeks(1);
        Check.due("1998", head.count(10), 1998);
        head.weeks(1);
        Check.due("2000", head.count(10), 2000);
        head.weeks(20);
        Check.due("2000", head.count(10), 2000);
    }

    private static void holding() {
        Check.due("no row", new HeadRows().holds(0), HeadRows.NONE);
        int[][] due = {{0, 1}, {11, 1}, {12, 2}, {23, 2}, {24, 3}, {36, 4}, {83, 7}, {84, 8}, {99, 8}};
        for (int[] pair : due) {
            HeadRows head = pairs(pair[0], 10);
            Check.due("holds with " + pair[0], head.holds(0), pair[1]);
            Check.due("the other", head.holds(1), 1);
            Check.due("holds -1", head.holds(-1), HeadRows.NONE);
            Check.due("holds 2", head.holds(2), HeadRows.NONE);
        }
        HeadRows thin = pairs(1, 99);
        Check.due("by the first step", thin.holds(0), 1);
        // 24, 24, 23 at the first steps: a hair added later does not make the least one more.
        HeadRows head = new HeadRows();
        int[] hairs = {71, 0, 0, 0};
        for (int cell = 0; cell < 192; cell++) {
            head.cell(cell % 16, cell / 16, cell < hairs.length ? hairs[cell] : HeadRows.NONE);
        }
        Check.drawn(head, "row 0 0 right 3 ;");
        Check.due("23 / 4 and one", head.holds(0), 6);
        head.added(0, 2, 1, 20);
        Check.due("23 at the first steps", head.holds(0), 6);
    }

    private static void out() {
        HeadRows head = pairs(99, 24);
        Check.due("never done", head.isOut(0), 0);
        head.weeks(20);
        Check.due("never done", head.isOut(0), 0);
        Check.due("row -1", head.isOut(-1), HeadRows.NONE);
        Check.due("row 2", head.isOut(2), HeadRows.NONE);
        Check.due("done", head.done(), 2);
        Check.due("just done", head.isOut(0) + head.isOut(1), 0);
        head.weeks(2);
        Check.due("2 weeks", head.isOut(1), 0);
        head.weeks(1);
        Check.due("3 weeks", head.isOut(1), 1);
        Check.due("3 weeks", head.isOut(0), 0);
        head.weeks(4);
        Check.due("7 weeks", head.isOut(0), 0);
        Check.due("done anew", head.done(), 2);
        Check.due("done anew", head.isOut(1), 0);
        head.weeks(8);
        Check.due("8 weeks", head.isOut(0), 1);
        Check.due("nothing to do", new HeadRows().done(), 0);
    }

    private static void outByChange() {
        HeadRows head = new HeadRows();
        Check.drawn(head, "row 0 0 right 1 ;");
        head.done();
        head.weeks(2);
        Check.due("it holds 8", head.holds(0), 8);
        Check.due("not out", head.isOut(0), 0);
        Check.drawn(head, "part 2 0 down 1 left 2 ;");
        Check.due("with less hair it holds 1", head.holds(0), 1);
        Check.due("out", head.isOut(0), 1);
        head.takeBack();
        Check.due("not out", head.isOut(0), 0);
        Check.drawn(head, "part 2 0 down 1 left 2 ;");
        head.added(0, 0, 99, 100);
        Check.due("the right strand is as it was", head.holds(0), 1);
    }

    private static void redone() {
        HeadRows head = pairs(10, 10);
        Check.drawn(head, "row 2 2 right 1 ; row 2 3 right 1 ; row 3 1 left 1 ;");
        Check.due("never done", head.redo(0), false);
        Check.due("no such row", head.redo(5), false);
        Check.due("row -1", head.redo(-1), false);
        head.done();
        Check.due("not out", head.redo(0), false);
        head.weeks(1);
        Check.due("row 0 is out", head.isOut(0) + head.isOut(1), 2);
        Check.due("redo", head.redo(0), true);
        Check.due("row 1 is out still", head.isOut(0) * 10 + head.isOut(1), 1);
        Check.due("redo again", head.redo(0), false);
        head.weeks(20);
        Check.due("join", head.join(1, 2, 4), 1);
        Check.due("out", head.isOut(1), 1);
        Check.due("joined", head.redo(1), false);
        Check.due("not joined", head.redo(3), true);
    }

    private static void counts() {
        HeadRows head = pairs(7, 9);
        Check.drawn(head, "row 5 5 right 1 ; row 5 6 right 1 ; row 5 7 right 1 ;");
        head.join(2, 3, 4);
        head.added(0, 0, 5, 100);
        head.weeks(3);
        Check.feed(head, "row");
        // Behind the partings lie two regions and the rest; all hairs are taken.
        int hairs = 188 * 10 + 2 * 7 + 2 * 9;
        int[] due = {2, 5, 3, 0, 10, hairs, hairs + 5, 1, 2, 3, 209, 3, 1};
        for (int what = 0; what < due.length; what++) {
            Check.due("count " + what, head.count(what), due[what]);
        }
        Check.due("count -1", head.count(-1), HeadRows.NONE);
        Check.due("count 13", head.count(13), HeadRows.NONE);
    }
}
