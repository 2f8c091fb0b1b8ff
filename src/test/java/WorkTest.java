/** Promises 18 (work), 19 (hands), 20 (plan), 21 (planned). */
public final class WorkTest {
    public static void main(String[] args) {
        work();
        hands();
        plans();
        speeds();
        sittings();
        firstEight();
        leftOut();
        Check.end("WorkTest");
    }

    private static void planned(HeadRows head, int time, int... hands) {
        Check.due("time", head.plan(0), time);
        Check.due("rows", head.plan(2), hands.length);
        for (int row = 0; row < hands.length; row++) {
            Check.due("planned " + row, head.planned(row), hands[row]);
        }
    }

    private static void work() {
        HeadRows head = Heads.bald();
        Check.due("no row", head.work(0), HeadRows.NONE);
        head.cell(0, 0, 19);
        Check.drawn(head, "row 0 0 right 2 ;");
        Check.due("a tenth, cut", head.work(0), 6 + 1);
        head.added(0, 2, 1, 20);
        Check.due("added", head.work(0), 6 + 2 + 5);
        head.added(0, 2, 1, 20);
        Check.due("added twice", head.work(0), 6 + 2 + 10);
        Check.due("row -1", head.work(-1), HeadRows.NONE);
        Check.due("row 1", head.work(1), HeadRows.NONE);
    }

    private static void hands() {
        HeadRows head = Heads.bald();
        Check.drawn(head, "row 0 0 right 5 ; row 0 1 right 5 ; row 0 2 right 5 ;");
        planned(head, 36, 0, 0, 0);
        Check.due("1 1 1", head.hands(1, 1, 1), true);
        planned(head, 12, 0, 1, 2);
        Check.due("0", head.hands(0, 1, 1), false);
        Check.due("-1", head.hands(-1, 1, 1), false);
        Check.due("4", head.hands(4, 1, 1), false);
        Check.due("second 4", head.hands(1, 4, 1), false);
        Check.due("second -1", head.hands(1, -1, 1), false);
        Check.due("third 4", head.hands(1, 1, 4), false);
        Check.due("third -1", head.hands(1, 0, -1), false);
        Check.due("third 4 behind none", head.hands(1, 0, 4), false);
        planned(head, 12, 0, 1, 2);
        Check.due("behind none", head.hands(1, 0, 3), true);
        planned(head, 36, 0, 0, 0);
        Check.due("two", head.hands(1, 3, 0), true);
        planned(head, 12, 0, 1, 1);
        Check.due("three", head.hands(3, 3, 3), true);
        planned(head, 4, 0, 1, 2);
    }

    private static void plans() {
        HeadRows head = Heads.bald();
        planned(head, 0);
        Check.drawn(head, "row 0 0 right 4 ; row 0 1 right 2 ; row 0 2 right 2 ; row 0 3 right 1 ;");
        planned(head, 26, 0, 0, 0, 0);
        head.hands(1, 1, 0);
        planned(head, 14, 0, 1, 1, 0);
        head.hands(1, 1, 1);
        planned(head, 10, 0, 1, 2, 1);
        Check.due("plan -1", head.plan(-1), HeadRows.NONE);
        Check.due("plan 3", head.plan(3), HeadRows.NONE);
        Check.due("planned -1", head.planned(-1), HeadRows.NONE);
        Check.due("planned 4", head.planned(4), HeadRows.NONE);
    }

    private static void speeds() {
        HeadRows head = Heads.bald();
        Check.drawn(head, "row 0 0 right 4 ; row 0 1 right 2 ; row 0 2 right 2 ; row 0 3 right 1 ;");
        // 10, 6, 6, 4 minutes: at speed 3 they take 4, 2, 2, 2.
        head.hands(3, 0, 0);
        planned(head, 10, 0, 0, 0, 0);
        head.hands(3, 1, 0);
        planned(head, 8, 0, 0, 0, 1);
        head.hands(1, 3, 0);
        planned(head, 8, 1, 0, 1, 1);
    }

    private static void sittings() {
        int[][] due = {{2, 4}, {29, 58}, {30, 60}, {31, 72}, {60, 130}, {61, 142}, {90, 200}, {91, 212}};
        for (int[] cells : due) {
            HeadRows head = Heads.bald();
            Check.drawn(head, Heads.snake(cells[0]));
            Check.due("time", head.plan(0), 2 * cells[0]);
            Check.due("sitting of " + cells[0] + " cells", head.plan(1), cells[1]);
        }
        Check.due("sitting of nothing", new HeadRows().plan(1), 0);
        HeadRows odd = Heads.bald();
        odd.cell(0, 0, 10);
        Check.drawn(odd, "row 0 0 right 15 down 1 left 13 ;");
        Check.due("time", odd.plan(0), 61);
        Check.due("sitting of 61", odd.plan(1), 71);
    }

    private static void firstEight() {
        HeadRows head = Heads.bald();
        Check.drawn(head, "again 5 right 2 ( again 2 down 2 ( row 0 0 down 1 ; ) ; ) ;");
        Check.due("rows", head.count(1), 10);
        Check.due("rows in it", head.plan(2), 8);
        Check.due("time", head.plan(0), 32);
        Check.due("planned 7", head.planned(7), 0);
        Check.due("planned 8", head.planned(8), HeadRows.NONE);
    }

    private static void leftOut() {
        HeadRows head = Heads.bald();
        Check.drawn(head, "row 0 0 right 1 ; row 0 1 right 2 ;");
        head.done();
        planned(head, 0);
        Check.drawn(head, "row 0 2 right 3 ;");
        Check.due("rows never done", head.plan(2), 1);
        Check.due("time", head.plan(0), 8);
        Check.due("planned 0", head.planned(0), HeadRows.NONE);
        Check.due("planned 2", head.planned(2), 0);
        head.weeks(1);
        planned(head, 18, 0, 0, 0);
        head.hands(1, 1, 1);
        Check.due("planned 0 as it is now", head.planned(0), 0);
        Check.due("planned 2 as it is now", head.planned(2), 2);
        head.hands(1, 0, 0);
        Check.due("redo", head.redo(1), true);
        Check.due("rows out or never done", head.plan(2), 2);
        Check.due("planned 1", head.planned(1), HeadRows.NONE);
        Check.due("time", head.plan(0), 12);
    }
}
