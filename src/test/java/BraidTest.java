/** Promises 11 (strand), 12 (added), 13 (pull), 14 (even), 15 (hangs), 16 (join). */
public final class BraidTest {
    public static void main(String[] args) {
        strands();
        thirds();
        edges();
        noneSuch();
        addedHair();
        addedMost();
        hanging();
        hangingLimits();
        joins();
        joinedHang();
        Check.end("BraidTest");
    }

    private static void strands() {
        HeadRows head = Heads.strip(7, 4, 2, 6, 3);
        Check.drawn(head, "row 3 5 right 4 ;");
        Check.weights(head, 0, 0, 3, 2, 2);
        Check.weights(head, 0, 1, 2, 7, 2);
        Check.weights(head, 0, 2, 2, 4, 7);
        Check.weights(head, 0, 3, 4, 8, 7);
        Check.weights(head, 0, 4, 4, 10, 8);
        int[] t = {7, 4, 2, 6, 3};
        int[] pull = {2, 10, 10, 8, 12};
        for (int step = 0; step < 5; step++) {
            Check.due("T at " + step, head.strand(0, step, 3), t[step]);
            Check.due("pull at " + step, head.strand(0, step, 4), pull[step]);
            Check.due("edge at " + step, head.strand(0, step, 5), 1);
        }
        Check.due("pull", head.pull(0), 12);
        Check.due("even", head.even(0), 5);
        Check.due("all weights", head.count(6), 22);
        // The strands take in turn: after step 7 the one that took at 6, at 7, at 5.
        HeadRows longer = Heads.strip(30, 1, 2, 3, 4, 5, 6, 7);
        Check.drawn(longer, "row 3 5 right 7 ;");
        Check.weights(longer, 0, 5, 15, 17, 13);
        Check.weights(longer, 0, 6, 15, 19, 17);
        Check.weights(longer, 0, 7, 19, 22, 17);
        Check.due("pull", longer.pull(0), 10);
    }

    private static void thirds() {
        for (int hairs = 0; hairs < 9; hairs++) {
            HeadRows head = Heads.strip(hairs, 0);
            Check.drawn(head, "row 3 5 right 1 ;");
            int more = hairs % 3;
            Check.weights(head, 0, 0, hairs / 3 + (more > 0 ? 1 : 0), hairs / 3 + (more > 1 ? 1 : 0), hairs / 3);
        }
    }

    private static void edges() {
        HeadRows head = new HeadRows();
        head.cell(5, 7, HeadRows.NONE);
        Check.drawn(head, "part 3 3 right 1 ; row 3 3 down 6 ; row 5 6 right 1 ; row 0 9 right 1 ; row 9 11 up 1 ;");
        Check.due("a parting is no edge", head.strand(0, 0, 5), 0);
        Check.due("two from what is off", head.strand(0, 4, 5), 0);
        Check.due("above what is off", head.strand(1, 0, 5), 1);
        Check.due("beside it", head.strand(1, 1, 5), 0);
        Check.drawn(head, "row 9 0 right 1 ; row 15 5 left 1 ;");
        Check.due("at the upper end", head.strand(4, 0, 5) + head.strand(4, 1, 5), 2);
        Check.due("at the right end", head.strand(5, 0, 5), 1);
        Check.due("one from it", head.strand(5, 1, 5), 0);
        Check.due("takeBack", head.takeBack(), 2);
        Check.due("at the left end", head.strand(2, 0, 5), 1);
        Check.due("one from it", head.strand(2, 1, 5), 0);
        Check.due("at the lower end", head.strand(3, 0, 5), 1);
        for (int row = 0; row < 4; row++) {
            int greatest = 0;
            for (int step = 0; head.row(row, step) != HeadRows.NONE; step++) {
                int a = head.strand(row, step, 0);
                int b = head.strand(row, step, 1);
                int c = head.strand(row, step, 2);
                int apart = Math.max(a, Math.max(b, c)) - Math.min(a, Math.min(b, c));
                int due = head.strand(row, step, 5) == 1 ? 2 * apart : apart;
                Check.due("pull", head.strand(row, step, 4), due);
                greatest = Math.max(greatest, due);
            }
            Check.due("greatest pull", head.pull(row), greatest);
        }
        // 10 and 10 in the region of its own, and not at an edge: 4, 3, 3 then 3, 14, 3.
        HeadRows other = new HeadRows();
        Check.drawn(other, "part 5 5 right 2 down 1 left 2 up 1 ; row 5 5 right 1 ;");
        Check.due("pull at 0", other.strand(0, 0, 4), 1);
        Check.due("pull at 1", other.strand(0, 1, 4), 11);
        Check.due("pull", other.pull(0), 11);
        Check.due("even", other.even(0), 0);
    }

    private static void noneSuch() {
        HeadRows head = Heads.strip(7, 4, 2, 6, 3);
        Check.isNone("no row yet", () -> head.strand(0, 0, 0));
        Check.due("pull", head.pull(0), HeadRows.NONE);
        Check.drawn(head, "row 3 5 right 4 ;");
        Check.isNone("row -1", () -> head.strand(-1, 0, 0));
        Check.isNone("row 1", () -> head.strand(1, 0, 0));
        Check.isNone("step -1", () -> head.strand(0, -1, 0));
        Check.isNone("step 5", () -> head.strand(0, 5, 0));
        Check.isNone("what -1", () -> head.strand(0, 0, -1));
        Check.isNone("what 6", () -> head.strand(0, 0, 6));
        int[] wrong = {-1, 1, 24, Integer.MIN_VALUE, Integer.MAX_VALUE};
        for (int row : wrong) {
            Check.due("pull", head.pull(row), HeadRows.NONE);
            Check.due("even", head.even(row), HeadRows.NONE);
            Check.due("hangs", head.hangs(row), HeadRows.NONE);
            Check.due("added", head.added(row, 0, 1, 100), HeadRows.NONE);
        }
    }

    private static void addedHair() {
        HeadRows head = Heads.strip(7, 4, 2, 6, 3);
        Check.drawn(head, "row 3 5 right 4 ;");
        Check.due("hairs 0", head.added(0, 0, 0, 100), HeadRows.NONE);
        Check.due("hairs 100", head.added(0, 0, 100, 100), HeadRows.NONE);
        Check.due("mm 19", head.added(0, 0, 1, 19), HeadRows.NONE);
        Check.due("mm 2001", head.added(0, 0, 1, 2001), HeadRows.NONE);
        Check.due("step -1", head.added(0, -1, 1, 100), HeadRows.NONE);
        Check.due("step 5", head.added(0, 5, 1, 100), HeadRows.NONE);
        Check.due("count 12", head.count(12), 0);
        Check.due("added", head.added(0, 0, 5, 20), 1);
        Check.weights(head, 0, 0, 8, 2, 2);
        Check.weights(head, 0, 1, 2, 12, 2);
        Check.due("added", head.added(0, 2, 99, 2000), 2);
        Check.weights(head, 0, 1, 2, 12, 2);
        Check.weights(head, 0, 2, 2, 103, 12);
        Check.weights(head, 0, 3, 103, 8, 12);
        Check.weights(head, 0, 4, 103, 15, 8);
        Check.due("T without it", head.strand(0, 2, 3), 2);
        Check.due("even without it", head.even(0), 5);
        Check.due("hairs without it", head.count(5), 22);
        Check.due("weights with it", head.count(6), 126);
        Check.due("pull", head.pull(0), 202);
        Check.due("count 12", head.count(12), 2);
    }

    private static void addedMost() {
        HeadRows head = new HeadRows();
        Check.drawn(head, "row 0 0 right 1 ; row 0 2 right 1 ;");
        for (int n = 1; n <= 60; n++) {
            Check.due("added", head.added(n % 2, n % 2, 1, 100), n);
        }
        Check.due("61st", head.added(0, 0, 1, 100), HeadRows.NONE);
        Check.due("count 12", head.count(12), 60);
        Check.due("weights", head.count(6), 1980);
    }

    private static void hanging() {
        HeadRows head = Heads.strip(7, 4, 2, 6, 3);
        Check.drawn(head, "row 3 5 right 4 ;");
        // The three: 3 at 160, 4 at 170, 3 at 200; 2 at 160, 6 at 190; 2 at 160, 2 at 180.
        Check.due("hangs", head.hangs(0), 160);
        head.added(0, 2, 1, 100);
        Check.due("a short one", head.hangs(0), 160);
        head.added(0, 2, 1, 400);
        Check.due("a long one at 2", head.hangs(0), 180);
        head.added(0, 0, 99, 2000);
        Check.due("in a strand that reaches further", head.hangs(0), 180);
        head.added(0, 4, 3, 2000);
        Check.due("in a strand that reaches further", head.hangs(0), 180);
        head.added(0, 2, 2, 195);
        Check.due("no longer than 180", head.hangs(0), 180);
        head.added(0, 2, 2, 205);
        Check.due("the third reaches 185", head.hangs(0), 185);
        head.added(0, 2, 3, 2000);
        Check.due("the strand of 190", head.hangs(0), 190);
        head.weeks(2);
        Check.due("two weeks on", head.hangs(0), 196);
        // The strand that takes at steps 3 and 6 has hair that reaches less far; 3 hairs are put to it at 3.
        HeadRows longer = Heads.strip(9, 9, 9, 0, 9, 9, 0);
        Check.drawn(longer, "row 3 5 right 6 ;");
        Check.due("those of step 0", longer.hangs(0), 140);
        longer.added(0, 3, 3, 175);
        Check.due("put to it", longer.hangs(0), 145);
        longer.added(0, 6, 3, 155);
        Check.due("put to it", longer.hangs(0), 155);
    }

    private static void hangingLimits() {
        HeadRows head = Heads.strip(9, 9, 9, 9);
        head.length(20);
        Check.drawn(head, "row 3 5 right 3 ;");
        Check.due("20, 10, 0", head.hangs(0), 0);
        HeadRows few = Heads.strip(8, 0);
        Check.drawn(few, "row 3 5 right 1 ;");
        Check.due("two hairs in the right one", few.hangs(0), 0);
        HeadRows three = Heads.strip(9, 0);
        Check.drawn(three, "row 3 5 right 1 ;");
        Check.due("three in each", three.hangs(0), 190);
        HeadRows two = Heads.strip(8, 3);
        Check.drawn(two, "row 3 5 right 1 ;");
        Check.due("the right one has two", two.hangs(0), 0);
    }

    private static void joins() {
        HeadRows head = new HeadRows();
        // Last cells: (4,4), (6,4), (6,6), (7,4), (4,7), (5,5)
        Check.drawn(head, "row 4 3 down 1 ; row 6 3 down 1 ; row 6 7 up 1 ; row 7 3 down 1 ; row 4 8 up 1 ; row 5 6 up 1 ;");
        Check.due("row -1", head.join(0, 1, -1), HeadRows.NONE);
        Check.due("row 6", head.join(6, 1, 2), HeadRows.NONE);
        Check.due("row 6", head.join(0, 6, 2), HeadRows.NONE);
        Check.due("row 6", head.join(0, 1, 6), HeadRows.NONE);
        Check.due("row -1", head.join(-1, 1, 2), HeadRows.NONE);
        Check.due("two alike", head.join(0, 0, 1), HeadRows.NONE);
        Check.due("two alike", head.join(0, 1, 0), HeadRows.NONE);
        Check.due("two alike", head.join(1, 0, 0), HeadRows.NONE);
        Check.due("3 columns apart", head.join(0, 3, 1), HeadRows.NONE);
        Check.due("3 columns apart", head.join(1, 0, 3), HeadRows.NONE);
        Check.due("3 lines apart", head.join(4, 0, 5), HeadRows.NONE);
        Check.due("count 7", head.count(7), 0);
        Check.due("2 apart", head.join(2, 0, 1), 1);
        Check.due("joined", head.join(0, 3, 5), HeadRows.NONE);
        Check.due("joined", head.join(3, 1, 5), HeadRows.NONE);
        Check.due("joined", head.join(3, 5, 2), HeadRows.NONE);
        Check.drawn(head, "row 8 5 left 1 ;");
        Check.due("the others", head.join(3, 5, 6), 2);
        Check.due("count 7", head.count(7), 2);
        HeadRows corner = new HeadRows();
        Check.drawn(corner, "row 1 0 left 1 ; row 1 1 left 1 ;");
        Check.due("no such row near the corner", corner.join(0, 1, 2), HeadRows.NONE);
        Check.due("no such row near the corner", corner.join(0, 2, 1), HeadRows.NONE);
        Check.due("no such row near the corner", corner.join(2, 0, 1), HeadRows.NONE);
        Check.due("no such row near the corner", corner.join(0, -1, 1), HeadRows.NONE);
    }

    private static void joinedHang() {
        HeadRows head = new HeadRows();
        int[] hairs = {5, 3, 9, 0, 2, 8};
        for (int cell = 0; cell < 192; cell++) {
            int n = cell % 16 + 2 * (cell / 16 - 4);
            boolean isOn = cell % 16 < 2 && cell / 16 >= 4 && cell / 16 < 7;
            head.cell(cell % 16, cell / 16, isOn ? hairs[n] : HeadRows.NONE);
        }
        head.length(100);
        Check.drawn(head, "row 0 4 right 1 ; row 0 5 right 1 ; row 0 6 right 1 ;");
        Check.due("alone", head.hangs(1), 90);
        Check.due("join", head.join(0, 1, 2), 1);
        for (int row = 0; row < 3; row++) {
            Check.due("row 0 has 8 hairs", head.hangs(row), 0);
        }
        head.added(0, 0, 1, 50);
        for (int row = 0; row < 3; row++) {
            Check.due("the ninth reaches 40", head.hangs(row), 40);
        }
        head.added(0, 1, 6, 500);
        Check.due("90 of row 1 and 2", head.hangs(0), 90);
        head.added(1, 1, 9, 2000);
        Check.due("90 of row 2", head.hangs(1), 90);
        head.added(2, 1, 1, 95);
        Check.due("95 of row 2, 100 of row 0", head.hangs(1), 95);
    }
}
