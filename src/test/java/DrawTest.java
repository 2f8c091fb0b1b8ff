/** Promises 5 (draw, beside its faults), 6 (takeBack), 9 (side), 10 (row). */
public final class DrawTest {
    public static void main(String[] args) {
        ways();
        sides();
        partingsThatCanNotBe();
        rowsThatCanNotBe();
        noneOfTheProgram();
        most();
        again();
        mirror();
        mixed();
        takingBack();
        Check.end("DrawTest");
    }

    private static void ways() {
        HeadRows head = new HeadRows();
        Check.drawn(head, "row 2 3 right 2 down 1 left 1 up 0 down 1 ; row 9 9 up 2 ;");
        Check.row(head, 0, 50, 51, 52, 68, 67, 83);
        Check.row(head, 1, 153, 137, 121);
        Check.due("row 2", head.row(2, 0), HeadRows.NONE);
        Check.due("row -1", head.row(-1, 0), HeadRows.NONE);
        Check.due("step -1", head.row(0, -1), HeadRows.NONE);
        Check.due("far off", head.row(Integer.MAX_VALUE, Integer.MAX_VALUE), HeadRows.NONE);
    }

    private static void sides() {
        HeadRows head = new HeadRows();
        Check.drawn(head, "part 3 4 right 1 down 1 ; part 0 0 down 1 ; part 16 12 left 1 ;");
        Check.due("above", head.side(3, 4, 0), 1);
        Check.due("below", head.side(3, 3, 1), 1);
        Check.due("right", head.side(3, 4, 3), 1);
        Check.due("left", head.side(4, 4, 2), 1);
        Check.due("no side", head.side(3, 4, 1) + head.side(3, 4, 2) + head.side(4, 4, 0) + head.side(4, 4, 3), 0);
        Check.due("at the left end", head.side(0, 0, 2), 1);
        Check.due("not below it", head.side(0, 1, 2), 0);
        Check.due("at the lower end", head.side(15, 11, 1), 1);
        Check.due("where -1", head.side(3, 4, -1), HeadRows.NONE);
        Check.due("where 4", head.side(3, 4, 4), HeadRows.NONE);
        Check.due("column -1", head.side(-1, 4, 0), HeadRows.NONE);
        Check.due("line 12", head.side(3, 12, 0), HeadRows.NONE);
        Check.drawn(head, "part 1 0 left 1 ;");
        Check.due("the first side", head.side(0, 0, 0), 1);
        Check.due("takeBack", head.takeBack(), 1);
        Check.due("the first side away", head.side(0, 0, 0), 0);
        HeadRows off = new HeadRows();
        off.cell(5, 5, -1);
        Check.drawn(off, "part 5 5 right 1 ;");
        Check.due("of a cell off the scalp", off.side(5, 5, 0), 1);
        Check.due("of a cell off the scalp", off.side(5, 5, 1), 0);
    }

    private static void partingsThatCanNotBe() {
        HeadRows head = new HeadRows();
        Check.cannot(head, "part 0 5 left 1 ;", 1, 0);
        Check.cannot(head, "part 16 5 right 1 left 1 ;", 1, 0);
        Check.cannot(head, "part 5 0 up 1 ;", 1, 0);
        Check.cannot(head, "part 5 12 down 1 ;", 1, 0);
        Check.cannot(head, "part 5 5 right 1 left 1 left 16 ;", 1, 0);
        Check.cannot(head, "part 5 5 up 0 left 0 ;", 2, 0);
        Check.cannot(head, "part 5 5 right 1 left 1 ;", 3, 0);
        Check.cannot(head, "part 5 5 right 2 down 1 left 1 up 1 right 1 ;", 3, 0);
        Check.cannot(head, "part 5 5 right 2 down 1 left 1 up 2 ;", 4, 0);
        Check.cannot(head, "part 5 5 right 2 down 1 left 1 up 1 ;", 4, 0);
        Check.cannot(head, "part 5 5 right 1 down 1 left 1 up 1 left 1 ;", 4, 0);
        Check.drawn(head, "part 5 5 right 1 down 1 left 1 up 1 ;");
        Check.cannot(head, "part 5 5 right 1 ;", 3, 0);
        Check.cannot(head, "part 7 5 left 2 ;", 3, 0);
        Check.cannot(head, "part 4 5 right 1 up 1 ;", 4, 0);
        Check.cannot(head, "part 7 6 left 1 down 1 ;", 4, 0);
        Check.drawn(head, "part 4 5 right 1 ; part 6 6 right 1 ;");
        Check.drawn(head, "part 10 9 up 2 ; part 12 9 down 1 ; part 13 9 left 1 ; part 15 9 right 1 ;");
        Check.cannot(head, "part 9 9 right 1 down 1 ;", 4, 0);
        Check.cannot(head, "part 11 9 right 1 up 1 ;", 4, 0);
        Check.cannot(head, "part 13 8 down 2 ;", 4, 0);
        Check.cannot(head, "part 15 8 down 2 ;", 4, 0);
        Check.cannot(head, "part 9 8 right 2 ;", 4, 0);
        Check.due("takeBack", head.takeBack(), 4);
        Check.drawn(head, "part 5 5 up 1 ; part 4 4 right 1 ;");
        Check.cannot(head, "part 4 3 down 1 right 1 down 2 ;", 3, 0);
        Check.due("partings", head.count(0), 5);
        StringBuilder around = new StringBuilder("part 0 0");
        for (int n = 0; n < 110; n++) {
            around.append("right16left16");
        }
        HeadRows other = new HeadRows();
        Check.cannot(other, around.substring(0, 8 + 13 * 70) + ";", 3, 0);
        Check.cannot(other, around.substring(0, 8 + 13 * 70) + "up1;", 1, 0);
    }

    private static void rowsThatCanNotBe() {
        HeadRows head = new HeadRows();
        head.cell(8, 8, HeadRows.NONE);
        Check.cannot(head, "row 8 8 right 1 ;", 5, 0);
        Check.cannot(head, "row 7 8 right 2 ;", 5, 0);
        Check.cannot(head, "row 0 0 left 1 ;", 5, 0);
        Check.cannot(head, "row 15 0 right 1 ;", 5, 0);
        Check.cannot(head, "row 0 0 up 1 ;", 5, 0);
        Check.cannot(head, "row 0 11 down 1 ;", 5, 0);
        Check.cannot(head, "row 3 3 up 0 ;", 8, 0);
        Check.cannot(head, "row 3 3 right 1 left 1 ;", 7, 0);
        Check.cannot(head, "row 3 3 right 1 down 1 left 1 up 2 ;", 7, 0);
        Check.drawn(head, "part 4 0 down 3 ; row 2 4 right 4 ;");
        Check.cannot(head, "row 3 0 right 1 ;", 6, 0);
        Check.cannot(head, "row 4 2 left 1 ;", 6, 0);
        Check.drawn(head, "part 0 10 right 2 ;");
        Check.cannot(head, "row 1 9 down 1 ;", 6, 0);
        Check.cannot(head, "row 1 10 up 1 ;", 6, 0);
        Check.cannot(head, "row 2 4 left 1 ;", 7, 0);
        Check.cannot(head, "row 6 3 down 2 ;", 7, 0);
        // The first that is wrong, from the first cell on.
        Check.cannot(head, "row 3 2 right 1 up 8 ;", 6, 0);
        Check.cannot(head, "row 5 2 down 2 left 9 ;", 7, 0);
        Check.cannot(head, "row 7 8 right 1 left 1 ;", 5, 0);
        Check.drawn(head, "part 8 4 down 1 ; row 8 4 right 1 ; row 7 4 down 1 ;");
        Check.cannot(head, "row 7 5 up 1 right 1 ;", 7, 0);
        Check.due("takeBack", head.takeBack(), 3);
        Check.drawn(head, "part 8 4 down 1 ; row 8 4 right 1 ;");
        Check.cannot(head, "row 7 4 right 1 ;", 6, 0);
        StringBuilder around = new StringBuilder("row 0 0");
        for (int n = 0; n < 75; n++) {
            around.append("right9left9");
        }
        Check.cannot(new HeadRows(), around + ";", 7, 0);
    }

    private static void noneOfTheProgram() {
        HeadRows head = new HeadRows();
        Check.drawn(head, "part 0 1 right 1 ; row 0 5 right 1 ;");
        Check.cannot(head, "part 3 3 right 1 ; row 9 9 right 1 ; part 4 4 down 1 ; row 9 9 down 1 ;", 7, 3);
        Check.due("side away", head.side(3, 3, 0), 0);
        Check.due("row away", head.look(9, 9, 2), HeadRows.NONE);
        Check.due("side that stays", head.side(0, 1, 0), 1);
        Check.due("row that stays", head.look(1, 5, 2), 0);
        Check.cannot(head, "again 9 right 2 ( row 0 8 right 1 ; )  ;", 5, 8);
        Check.cannot(head, "mirror ( row 6 2 right 2 ; ) ;", 7, 1);
    }

    private static void most() {
        HeadRows head = new HeadRows();
        Check.drawn(head, "again 6 down 2 ( again 9 right 1 ( part 1 0 down 1 ; ) ; ) ;");
        Check.cannot(head, "again 7 right 1 ( part 10 0 down 1 ; ) ;", 9, 6);
        Check.drawn(head, "again 6 right 1 ( part 10 0 down 1 ; ) ;");
        Check.due("60 partings", head.count(0), 60);
        Check.cannot(head, "part 0 0 left 1 ;", 9, 0);
        Check.cannot(head, "part 0 0 left 0 ;", 9, 0);
        Check.drawn(head, "row 10 8 right 1 ;");
        HeadRows other = new HeadRows();
        Check.drawn(other, "again 8 right 2 ( again 3 down 2 ( row 0 0 down 1 ; ) ; ) ;");
        Check.due("24 rows", other.count(1), 24);
        Check.cannot(other, "row 0 8 right 1 ;", 9, 0);
        Check.cannot(other, "row 0 0 up 1 ;", 9, 0);
        Check.cannot(other, "part 0 8 right 1 ; row 0 8 right 1 ;", 9, 1);
        Check.drawn(other, "part 0 8 right 1 ;");
        Check.due("takeBack", other.takeBack(), 1);
        Check.due("takeBack", other.takeBack(), 24);
        Check.drawn(other, "row 0 8 right 1 ;");
        HeadRows third = new HeadRows();
        for (int n = 0; n < 84; n++) {
            String place = n % 12 + " " + (n < 60 ? n / 12 : 7 + (n - 60) / 12 * 2);
            Check.drawn(third, n < 60 ? "part " + place + " down 1 ;" : "row " + place + " down 1 ;");
        }
        Check.due("84 programs", third.count(8), 84);
        for (int n = 83; n >= 0; n--) {
            Check.due("takeBack", third.takeBack(), 1);
            Check.due("programs left", third.count(8), n);
            if (n % 12 == 0) {
                Check.due("partings and rows left", third.count(0) + third.count(1), n);
            }
        }
        Check.due("none is left", third.takeBack(), HeadRows.NONE);
    }

    private static void again() {
        HeadRows head = new HeadRows();
        Check.drawn(head, "again 3 down 2 ( row 4 1 right 1 ; part 0 1 right 1 ; ) ;");
        Check.row(head, 0, 20, 21);
        Check.row(head, 1, 52, 53);
        Check.row(head, 2, 84, 85);
        Check.due("parting", head.side(0, 1, 0) + head.side(0, 3, 0) + head.side(0, 5, 0), 3);
        Check.drawn(head, "again 1 down 9 ( row 9 1 right 1 ; ) ;");
        Check.row(head, 3, 25, 26);
        Check.drawn(head, "again 2 left 3 ( again 2 up 1 ( row 9 9 right 1 ; ) ; row 9 11 right 1 ; ) ;");
        Check.row(head, 4, 153, 154);
        Check.row(head, 5, 137, 138);
        Check.row(head, 6, 185, 186);
        Check.row(head, 7, 150, 151);
        Check.row(head, 8, 134, 135);
        Check.row(head, 9, 182, 183);
        Check.cannot(head, "again 2 up 0 ( row 12 3 right 1 ; ) ;", 7, 1);
        Check.due("programs", head.count(8), 3);
    }

    private static void mirror() {
        HeadRows head = new HeadRows();
        Check.drawn(head, "mirror ( row 2 2 right 2 up 1 left 1 down 0 ; part 1 7 left 1 up 2 ; ) ;");
        Check.row(head, 0, 34, 35, 36, 20, 19);
        Check.row(head, 1, 45, 44, 43, 27, 28);
        Check.due("left part", head.side(0, 7, 0) + head.side(0, 6, 2) + head.side(0, 5, 2), 3);
        Check.due("right part", head.side(15, 7, 0) + head.side(15, 6, 3) + head.side(15, 5, 3), 3);
        Check.due("partings", head.count(0), 2);
    }

    private static void mixed() {
        HeadRows head = new HeadRows();
        // The innermost first: moved to the right, then mirrored, so that the mirrored ones go left.
        Check.drawn(head, "mirror ( again 2 right 3 ( row 0 0 right 1 ; ) ; ) ;");
        Check.row(head, 0, 0, 1);
        Check.row(head, 1, 3, 4);
        Check.row(head, 2, 15, 14);
        Check.row(head, 3, 12, 11);
        // Mirrored, then moved to the left both.
        Check.drawn(head, "again 2 left 2 ( mirror ( row 2 2 right 1 ; ) ; ) ;");
        Check.row(head, 4, 34, 35);
        Check.row(head, 5, 45, 44);
        Check.row(head, 6, 32, 33);
        Check.row(head, 7, 43, 42);
        // Mirrored within a mirror: the fifth is where the second is.
        Check.cannot(head, "mirror ( again 2 right 2 ( mirror ( row 4 5 right 1 ; ) ; ) ; ) ;", 7, 4);
    }

    private static void takingBack() {
        HeadRows head = new HeadRows();
        Check.due("nothing to take back", head.takeBack(), HeadRows.NONE);
        Check.drawn(head, "row 0 0 right 3 ;");
        Check.drawn(head, "part 5 0 down 12 ; row 8 0 right 3 ; row 8 2 right 3 ;");
        Check.drawn(head, " \n");
        Check.due("programs", head.count(8), 2);
        Check.due("regions", head.count(2), 2);
        Check.due("done", head.done(), 3);
        Check.due("takeBack", head.takeBack(), 3);
        Check.due("regions", head.count(2), 1);
        Check.due("programs", head.count(8), 1);
        Check.row(head, 0, 0, 1, 2, 3);
        Check.row(head, 1);
        Check.due("takeBack of the first row", head.takeBack(), 1);
        Check.due("its first cell", head.look(0, 0, 2), HeadRows.NONE);
        Check.drawn(head, "row 0 0 right 3 ;");
        Check.due("side", head.side(5, 5, 2), 0);
        Check.due("taken anew", head.taken(15, 11), 3);
        Check.drawn(head, "row 8 5 right 1 ;");
        Check.row(head, 1, 88, 89);
        head.weeks(20);
        Check.due("the new row 1 was never done", head.isOut(1), 0);
        Check.due("added", head.added(0, 0, 1, 100), 1);
        Check.due("takeBack of row 1", head.takeBack(), 1);
        Check.due("row 0 has added hair", head.takeBack(), HeadRows.NONE);
        Check.due("programs", head.count(8), 1);
        Check.drawn(head, "part 5 0 down 1 ;");
        Check.due("takeBack of a parting", head.takeBack(), 1);
        HeadRows other = new HeadRows();
        Check.drawn(other, "row 0 0 right 1 ; row 0 1 right 1 ;");
        Check.drawn(other, "part 5 5 right 1 ; row 0 2 right 1 ;");
        Check.due("join", other.join(0, 1, 2), 1);
        Check.due("row 2 is joined", other.takeBack(), HeadRows.NONE);
        Check.due("partings", other.count(0), 1);
    }
}
