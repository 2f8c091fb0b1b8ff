/** Promises 7 (region), 8 (taken), 17 (look), and of 27 (count) what is of the net. */
public final class NetTest {
    public static void main(String[] args) {
        regions();
        nearest();
        equals();
        aroundPartings();
        parted();
        looks();
        unlike();
        Check.end("NetTest");
    }

    private static void regions() {
        HeadRows head = new HeadRows();
        head.cell(0, 0, HeadRows.NONE);
        Check.due("least cell on the scalp", head.region(15, 11), 1);
        Check.due("off the scalp", head.region(0, 0), HeadRows.NONE);
        Check.due("column 16", head.region(16, 0), HeadRows.NONE);
        Check.due("line -1", head.region(0, -1), HeadRows.NONE);
        for (int line = 0; line < 12; line++) {
            head.cell(8, line, HeadRows.NONE);
        }
        Check.due("left of the gap", head.region(7, 5), 1);
        Check.due("right of the gap", head.region(9, 5), 9);
        Check.due("regions", head.count(2), 2);
        Check.drawn(head, "part 0 6 right 7 ;");
        Check.due("a way round is left", head.region(0, 11), 1);
        Check.drawn(head, "part 7 6 right 1 ;");
        Check.due("below", head.region(0, 11), 96);
        Check.due("regions", head.count(2), 3);
        Check.due("takeBack", head.takeBack(), 1);
        Check.due("regions", head.count(2), 2);
        // The last cell of line 0 hangs together with the others only from below.
        HeadRows other = new HeadRows();
        Check.drawn(other, "part 15 0 down 11 ;");
        Check.due("from below", other.region(15, 0), 0);
        Check.due("regions", other.count(2), 1);
    }

    private static void nearest() {
        HeadRows head = new HeadRows();
        Check.drawn(head, "row 2 2 right 3 ; row 12 9 left 2 ;");
        Check.due("its own cell", head.taken(3, 2), 1);
        Check.due("above", head.taken(3, 0), 1);
        Check.due("left of the first", head.taken(0, 0), 0);
        Check.due("far down", head.taken(15, 11), 200);
        Check.due("far left", head.taken(9, 11), 202);
        Check.due("column -1", head.taken(-1, 3), HeadRows.NONE);
        Check.due("line 12", head.taken(3, 12), HeadRows.NONE);
        Check.due("loose", head.count(3), 0);
    }

    private static void equals() {
        HeadRows head = new HeadRows();
        Check.drawn(head, "row 4 5 left 1 ; row 0 5 right 1 ;");
        Check.due("the row of least number", head.taken(2, 5), 1);
        Check.due("the row of least number", head.taken(2, 0), 1);
        HeadRows other = new HeadRows();
        Check.drawn(other, "row 0 0 down 2 right 2 up 2 ;");
        Check.due("the first cell", other.taken(1, 1), 1);
        Check.due("the first cell", other.taken(1, 0), 0);
        Check.due("nearer", other.taken(3, 0), 6);
        // Found later, but of a lesser number: row 0 comes from the lower right.
        HeadRows third = new HeadRows();
        Check.drawn(third, "row 8 8 right 1 ; row 2 2 up 1 ;");
        Check.due("6 from both", third.taken(5, 5) + third.taken(6, 4), 0);
        Check.due("7 from row 0, 5 from row 1", third.taken(4, 5), 200);
    }

    private static void aroundPartings() {
        HeadRows head = new HeadRows();
        Check.drawn(head, "part 0 1 right 4 ; row 0 0 right 1 ; row 0 4 right 1 ;");
        Check.due("beyond the parting", head.taken(0, 1), 200);
        Check.due("above it", head.taken(3, 0), 1);
        Check.due("equal ways", head.taken(4, 1), 1);
        HeadRows other = new HeadRows();
        other.cell(1, 1, HeadRows.NONE);
        other.cell(0, 1, HeadRows.NONE);
        Check.drawn(other, "row 0 0 right 1 ; row 0 4 right 1 ;");
        Check.due("around what is off the scalp", other.taken(0, 2), 200);
        Check.due("off the scalp", other.taken(0, 1), HeadRows.NONE);
        Check.due("4 from both", other.taken(3, 2), 1);
        Check.due("5 from row 0, 3 from row 1", other.taken(3, 3), 201);
    }

    private static void parted() {
        HeadRows head = new HeadRows();
        Check.drawn(head, "part 8 0 down 12 ; row 0 0 right 1 ;");
        Check.due("loose", head.taken(8, 0), -2);
        Check.due("loose cells", head.count(3), 96);
        Check.due("taken", head.taken(7, 11), 1);
        // A parting across a row: each region has cells of it.
        Check.drawn(head, "row 10 2 down 6 ;");
        Check.drawn(head, "part 8 5 right 8 ;");
        Check.due("above the parting", head.taken(15, 4), 202);
        Check.due("below the parting", head.taken(15, 5), 203);
        Check.due("far below", head.taken(15, 11), 206);
        Check.due("loose cells", head.count(3), 0);
        Check.due("T ahead of the parting", head.strand(1, 2, 3), 10 * 8);
    }

    private static void looks() {
        HeadRows head = new HeadRows();
        head.cell(4, 4, 0);
        head.cell(5, 5, HeadRows.NONE);
        Check.drawn(head, "row 1 1 right 1 ; row 3 3 right 1 ;");
        Check.due("hairs", head.look(4, 4, 0), 0);
        Check.due("off", head.look(5, 5, 0), HeadRows.NONE);
        Check.due("row 0", head.look(2, 1, 2), 0);
        Check.due("row 1", head.look(3, 3, 2), 1);
        Check.due("no row", head.look(4, 4, 2), HeadRows.NONE);
        Check.due("no row off the scalp", head.look(5, 5, 2), HeadRows.NONE);
        Check.isNone("column -1", () -> head.look(-1, 0, 0));
        Check.isNone("column 16", () -> head.look(16, 0, 0));
        Check.isNone("line -1", () -> head.look(0, -1, 0));
        Check.isNone("line 12", () -> head.look(0, 12, 0));
        Check.isNone("what -1", () -> head.look(0, 0, -1));
        Check.isNone("what 3", () -> head.look(0, 0, 3));
    }

    private static void unlike() {
        HeadRows head = new HeadRows();
        Check.due("alike", head.look(0, 0, 1), 0);
        head.cell(0, 0, HeadRows.NONE);
        head.cell(15, 1, HeadRows.NONE);
        head.cell(3, 3, HeadRows.NONE);
        head.cell(12, 3, HeadRows.NONE);
        head.cell(2, 2, 99);
        Check.due("off the scalp", head.look(0, 0, 1), 1);
        Check.due("its mirrored one", head.look(15, 0, 1), 1);
        Check.due("mirrored off", head.look(0, 1, 1), 1);
        Check.due("both off", head.look(3, 3, 1), 0);
        Check.due("other hairs", head.look(2, 2, 1), 0);
        Check.due("pairs", head.count(4), 2);
        Check.drawn(head, "row 7 5 right 2 ;");
        Check.due("of the same row", head.look(7, 5, 1) + head.look(8, 5, 1), 0);
        Check.due("of a row alone", head.look(9, 5, 1) + head.look(6, 5, 1), 2);
        Check.due("pairs", head.count(4), 3);
        Check.drawn(head, "part 10 12 up 1 right 2 down 1 ;");
        Check.due("loose", head.look(10, 11, 1) + head.look(5, 11, 1) + head.look(11, 11, 1), 3);
        Check.due("taken both", head.look(9, 11, 1), 0);
        Check.due("pairs", head.count(4), 5);
        Check.drawn(head, "part 4 12 up 1 right 2 down 1 ;");
        Check.due("loose both", head.count(4), 3);
        Check.drawn(head, "row 8 8 up 1 ;");
        Check.due("in the middle", head.look(7, 8, 1) + head.look(8, 7, 1), 2);
        Check.due("pairs", head.count(4), 5);
    }
}
