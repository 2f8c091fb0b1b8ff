/** Terms 2 from the drawing on, 3, and the rows of 4; promises 5, 6, 7, 9, 10: a test for each sentence that names an edge. */
public final class DrawEdgesTest {
    private static final String[] WAYS = {"up", "down", "left", "right"};
    private static final int[] ACROSS = {0, 0, -1, 1};
    private static final int[] DOWN = {-1, 1, 0, 0};

    public static void main(String[] args) {
        ways();
        againFirst();
        againFurther();
        mirrorCorners();
        mirrorColumns();
        mirrorWays();
        innermostFirst();
        againMirrored();
        endsAtTheFirst();
        drawnAhead();
        kept();
        takenBack();
        takenBackAdded();
        takenBackJoined();
        numbersStay();
        mostPartings();
        cornerOff();
        noSide();
        sideTwice();
        sideOfAnother();
        cornerOnParting();
        cornerAtTheBorder();
        cornerTwice();
        firstReason();
        regions();
        regionName();
        mostRows();
        cellOff();
        cellParted();
        cellOfRow();
        cellTwice();
        firstCell();
        oneCell();
        regionNone();
        side();
        row();
        Check.end("DrawEdgesTest");
    }

    private static void ways() {
        Check.edge("a line from that CORNER, one WAY behind the other; row: from that CELL likewise.");
        HeadRows head = new HeadRows();
        Check.drawn(head, "row 2 9 up 1 right 0 right 1 down 2 left 2 left 0 ;");
        Check.row(head, 0, 146, 130, 131, 147, 163, 162, 161);
        Check.drawn(head, "part 2 2 up 0 right 1 down 1 down 0 ;");
        Check.due("sides drawn", head.side(2, 2, 0) + head.side(2, 2, 3), 2);
        Check.due("sides not drawn", head.side(2, 2, 1) + head.side(2, 2, 2), 0);
        Check.drawn(head, "row 0 11 right 15 ;");
        Check.due("15 cells on", head.row(1, 15), 191);
    }

    private static void againFirst() {
        Check.edge("what stands in ( ) is drawn N times, the first time as it is");
        for (int times = 1; times <= 9; times++) {
            HeadRows head = new HeadRows();
            Check.drawn(head, "again " + times + " right 1 ( row 3 3 down 1 ; ) ;");
            Check.due("rows of again " + times, head.count(1), times);
            Check.row(head, 0, 51, 67);
            Check.row(head, times - 1, 50 + times, 66 + times);
            Check.due("programs", head.count(8), 1);
        }
        // Once does not move, however far it would.
        HeadRows head = new HeadRows();
        Check.drawn(head, "again 1 right 16 ( row 15 0 down 1 ; ) ;");
        Check.row(head, 0, 15, 31);
    }

    private static void againFurther() {
        Check.edge("each further time moved by the WAY once more.");
        for (int way = 0; way < 4; way++) {
            HeadRows head = new HeadRows();
            Check.drawn(head, "again 3 " + WAYS[way] + " 2 ( row 7 5 right 1 ; part 7 5 down 1 ; ) ;");
            for (int n = 0; n < 3; n++) {
                int column = 7 + 2 * n * ACROSS[way];
                int line = 5 + 2 * n * DOWN[way];
                Check.row(head, n, 16 * line + column, 16 * line + column + 1);
                Check.due("side moved " + n + " times", head.side(column, line, 2), 1);
            }
            Check.due("partings", head.count(0), 3);
        }
        Check.cannot(new HeadRows(), "again 2 right 0 ( row 7 5 right 1 ; ) ;", 7, 1);
        Check.cannot(new HeadRows(), "again 2 up 0 ( part 7 5 right 1 ; ) ;", 3, 1);
        Check.cannot(new HeadRows(), "again 9 right 2 ( row 0 5 right 1 ; ) ;", 5, 8);
        Check.drawn(new HeadRows(), "again 8 right 2 ( row 0 5 right 1 ; ) ;");
        Check.cannot(new HeadRows(), "again 2 left 16 ( row 15 5 up 1 ; ) ;", 5, 1);
        Check.drawn(new HeadRows(), "again 2 left 16 ( part 16 5 up 1 ; ) ;");
        Check.cannot(new HeadRows(), "again 9 down 16 ( part 16 5 up 1 ; ) ;", 1, 1);
        Check.drawn(new HeadRows(), "again 9 right 1 ( row 0 5 up 1 ; ) ;");
    }

    private static void mirrorCorners() {
        Check.edge("CORNER x is 16 - x");
        for (int x = 0; x <= 16; x++) {
            HeadRows head = new HeadRows();
            String program = "mirror ( part " + x + " 3 down 2 ; ) ;";
            if (x == 8) {
                // It is its own mirrored one.
                Check.cannot(head, program, 3, 1);
            } else {
                Check.drawn(head, program);
                int least = Math.min(x, 16 - x);
                Check.due("left one of " + x, head.side(least, 3, 2) + head.side(least, 4, 2), 2);
                Check.due("right one of " + x, head.side(15 - least, 3, 3) + head.side(15 - least, 4, 3), 2);
                Check.due("partings", head.count(0), 2);
            }
        }
    }

    private static void mirrorColumns() {
        Check.edge("column x 15 - x");
        for (int x = 0; x <= 15; x++) {
            HeadRows head = new HeadRows();
            Check.drawn(head, "mirror ( row " + x + " 3 down 1 ; ) ;");
            Check.row(head, 0, 48 + x, 64 + x);
            Check.row(head, 1, 63 - x, 79 - x);
        }
    }

    private static void mirrorWays() {
        Check.edge("left is right");
        HeadRows head = new HeadRows();
        Check.drawn(head, "mirror ( row 3 3 left 2 down 1 right 1 up 0 ; ) ;");
        Check.row(head, 0, 51, 50, 49, 65, 66);
        Check.row(head, 1, 60, 61, 62, 78, 77);
        Check.drawn(head, "mirror ( row 6 7 up 1 right 1 ; ) ;");
        Check.row(head, 2, 118, 102, 103);
        Check.row(head, 3, 121, 105, 104);
        Check.drawn(head, "mirror ( part 3 9 left 1 down 1 right 1 up 1 ; ) ;");
        Check.due("closed on the left", head.region(2, 9), 146);
        Check.due("closed on the right", head.region(13, 9), 157);
        Check.cannot(head, "mirror ( row 6 10 right 2 ; ) ;", 7, 1);
    }

    private static void innermostFirst() {
        Check.edge("What stands in several of them is moved or mirrored by the innermost first.");
        // Mirrored at the net's middle first, then moved.
        HeadRows head = new HeadRows();
        Check.drawn(head, "again 2 right 1 ( mirror ( row 2 2 down 1 ; ) ; ) ;");
        Check.row(head, 0, 34, 50);
        Check.row(head, 1, 45, 61);
        Check.row(head, 2, 35, 51);
        Check.row(head, 3, 46, 62);
        // Moved down by each, the inner one first.
        HeadRows two = new HeadRows();
        Check.drawn(two, "again 2 down 6 ( again 3 right 4 ( row 0 0 down 1 ; ) ; ) ;");
        int[] first = {0, 4, 8, 96, 100, 104};
        for (int row = 0; row < 6; row++) {
            Check.row(two, row, first[row], first[row] + 16);
        }
        // Mirrored twice is where it was.
        Check.cannot(new HeadRows(), "mirror ( mirror ( row 2 2 down 1 ; ) ; ) ;", 7, 2);
        HeadRows three = new HeadRows();
        Check.drawn(three, "again 2 left 1 ( mirror ( again 2 right 2 ( part 1 3 down 1 ; ) ; ) ; ) ;");
        int[] corners = {1, 3, 15, 13, 0, 2, 14, 12};
        for (int corner : corners) {
            Check.due("side at corner " + corner, three.side(corner, 3, 2), 1);
        }
        Check.due("partings", three.count(0), 8);
    }

    private static void againMirrored() {
        Check.edge("(A WAY of again is mirrored with what it moves.)");
        HeadRows head = new HeadRows();
        Check.drawn(head, "mirror ( again 3 right 2 ( row 0 3 down 1 ; ) ; ) ;");
        int[] first = {48, 50, 52, 63, 61, 59};
        for (int row = 0; row < 6; row++) {
            Check.row(head, row, first[row], first[row] + 16);
        }
        HeadRows left = new HeadRows();
        Check.drawn(left, "mirror ( again 2 left 3 ( part 4 3 right 1 ; ) ; ) ;");
        int[] cells = {4, 1, 11, 14};
        for (int column : cells) {
            Check.due("side of column " + column, left.side(column, 3, 0), 1);
        }
        HeadRows down = new HeadRows();
        Check.drawn(down, "mirror ( again 2 down 3 ( row 4 3 up 1 ; ) ; ) ;");
        Check.row(down, 3, 107, 91);
    }

    private static void endsAtTheFirst() {
        Check.edge("The first PARTING or ROW that can't be ends it: none of the PROGRAM's is there then");
        HeadRows head = new HeadRows();
        Check.drawn(head, "part 0 1 right 16 ; row 0 5 right 1 ;");
        Check.cannot(head, "part 3 3 right 1 ; row 9 9 right 1 ; row 9 9 left 1 ; part 4 9 down 1 ;", 7, 2);
        Check.due("side", head.side(3, 3, 0) + head.side(3, 2, 1) + head.side(4, 9, 2), 0);
        Check.due("row", head.look(9, 9, 2), HeadRows.NONE);
        Check.due("row 1", head.row(1, 0), HeadRows.NONE);
        Check.due("taken", head.taken(9, 9), 1);
        Check.due("regions", head.count(2), 2);
        Check.due("loose", head.count(3), 16);
        Check.due("what was there", head.side(0, 1, 0) + head.side(15, 0, 1), 2);
        Check.due("the row that was there", head.look(1, 5, 2), 0);
        // The cells and sides are free again, and the next numbers are too.
        Check.drawn(head, "part 3 3 right 1 ; row 9 9 right 1 ;");
        Check.row(head, 1, 153, 154);
        Check.cannot(head, "mirror ( again 3 down 1 ( row 1 6 right 1 ; part 1 9 right 1 ; ) ; ) ; part 0 0 up 1 ;", 1, 12);
        Check.due("takeBack", head.takeBack(), 2);
        Check.due("takeBack", head.takeBack(), 2);
        Check.due("regions", head.count(2), 1);
    }

    private static void drawnAhead() {
        Check.edge("told is its REASON + 16 * how many were drawn ahead of it in this PROGRAM.");
        HeadRows head = new HeadRows();
        Check.drawn(head, "part 0 12 right 5 ; row 15 11 up 1 ;");
        for (int n = 1; n <= 9; n++) {
            Check.cannot(head, "again " + n + " right 1 ( part 1 0 down 1 ; ) ; row 0 0 up 1 ;", 5, n);
            Check.cannot(head, "again " + n + " right 1 ( row 1 0 down 1 ; ) ; part 0 0 up 1 ;", 1, n);
        }
        Check.cannot(head, "row 0 0 up 1 ;", 5, 0);
        Check.cannot(head, "again 5 right 1 ( row 1 0 down 1 ; part 1 0 down 1 ; ) ; part 0 0 up 0 ;", 2, 10);
        Check.cannot(new HeadRows(), "again 6 down 2 ( again 9 right 1 ( part 1 0 down 1 ; ) ; ) ; part 0 0 up 0 ;", 2, 54);
    }

    private static void kept() {
        Check.edge("Programs that drew something are kept, in order");
        HeadRows head = new HeadRows();
        String[] nothing = {"", " \n", "mirror ( ) ;", "again 9 up 1 ( again 2 left 2 ( ) ; ) ;", "x", "row 0 0 up 1 ;",
            "row 5 5 right 1 ; row 5 5 right 1 ;"};
        for (String program : nothing) {
            Check.draw(head, program);
            Check.due("programs behind '" + program + "'", head.count(8), 0);
            Check.due("takeBack behind '" + program + "'", head.takeBack(), HeadRows.NONE);
        }
        Check.drawn(head, "row 0 0 right 1 ;");
        Check.drawn(head, "part 0 3 right 1 ; part 0 4 right 1 ;");
        Check.drawn(head, "");
        Check.drawn(head, "row 0 7 right 1 ; row 0 8 right 1 ; part 0 9 right 1 ;");
        Check.due("programs", head.count(8), 3);
        Check.due("the third", head.takeBack(), 3);
        Check.due("the second", head.takeBack(), 2);
        Check.due("the first", head.takeBack(), 1);
        Check.due("none is", head.takeBack(), HeadRows.NONE);
        Check.due("programs", head.count(8), 0);
        // As many as there can be.
        HeadRows most = new HeadRows();
        for (int n = 0; n < 60; n++) {
            Check.drawn(most, "part" + n % 12 + " " + n / 12 + "down1;");
        }
        for (int n = 0; n < 24; n++) {
            Check.drawn(most, "row" + n % 12 + " " + (7 + n / 12 * 2) + "down1;");
        }
        Check.due("84 programs", most.count(8), 84);
        Check.cannot(most, "part 16 0 down 1 ;", 9, 0);
        Check.due("takeBack", most.takeBack(), 1);
        Check.due("83 programs", most.count(8), 83);
    }

    private static void takenBack() {
        Check.edge("the latest can be TAKEN BACK (its PARTINGS and ROWS are away");
        HeadRows head = new HeadRows();
        Check.drawn(head, "part 0 3 right 16 ; row 0 0 right 3 ;");
        Check.drawn(head, "part 8 3 down 9 ; row 4 5 right 3 ; row 12 5 down 3 ;");
        Check.due("done", head.done(), 3);
        Check.due("weeks", head.weeks(10), 10);
        Check.due("takeBack", head.takeBack(), 3);
        Check.due("partings", head.count(0), 1);
        Check.due("rows", head.count(1), 1);
        Check.due("side", head.side(8, 6, 2), 0);
        Check.due("side that stays", head.side(8, 3, 0), 1);
        Check.due("regions", head.count(2), 2);
        Check.due("row 1", head.row(1, 0), HeadRows.NONE);
        Check.due("row of its cell", head.look(4, 5, 2), HeadRows.NONE);
        Check.due("loose", head.taken(4, 5), -2);
        Check.due("row 0", head.row(0, 3), 3);
        Check.due("row 0 is out", head.isOut(0), 1);
        // The first side and the first cell, too.
        HeadRows first = new HeadRows();
        Check.drawn(first, "part 1 0 left 1 down 1 ; row 0 0 right 1 ; part 16 12 left 1 up 1 ; row 15 11 up 1 ;");
        Check.due("takeBack", first.takeBack(), 4);
        Check.due("sides", first.side(0, 0, 0) + first.side(0, 0, 2) + first.side(15, 11, 1) + first.side(14, 11, 3), 0);
        Check.due("rows", first.look(0, 0, 2) + first.look(15, 11, 2), 2 * HeadRows.NONE);
        Check.drawn(first, "row 15 11 up 1 ; part 16 12 left 1 up 1 ; part 1 0 left 1 down 1 ; row 0 0 right 1 ;");
        // A row of the same number and place was never done.
        Check.drawn(head, "row 4 5 right 3 ;");
        Check.due("never done", head.isOut(1), 0);
        Check.due("plan", head.plan(2), 2);
        Check.due("weeks", head.weeks(10), 20);
        Check.due("never done", head.isOut(1), 0);
    }

    private static void takenBackAdded() {
        Check.edge("unless one of its ROWS has ADDED hair");
        for (int row = 1; row <= 3; row++) {
            HeadRows head = new HeadRows();
            Check.drawn(head, "row 0 0 right 1 ;");
            Check.drawn(head, "part 0 1 right 1 ; row 0 3 right 1 ; row 0 4 right 1 ; row 0 5 right 1 ;");
            Check.due("not added", head.added(row, 2, 1, 100), HeadRows.NONE);
            Check.due("added", head.added(row, 1, 1, 100), 1);
            Check.due("takeBack", head.takeBack(), HeadRows.NONE);
            Check.due("programs", head.count(8), 2);
            Check.due("partings", head.count(0), 1);
            Check.due("rows", head.count(1), 4);
            Check.due("side", head.side(0, 1, 0), 1);
            Check.due("row", head.row(3, 1), 81);
            Check.drawn(head, "row 0 7 right 1 ;");
            Check.due("takeBack of a program behind it", head.takeBack(), 1);
            Check.due("takeBack", head.takeBack(), HeadRows.NONE);
        }
        HeadRows head = new HeadRows();
        Check.drawn(head, "row 0 0 right 1 ;");
        Check.drawn(head, "row 0 3 right 1 ;");
        Check.due("added to the first program's", head.added(0, 0, 1, 100), 1);
        Check.due("takeBack of the second", head.takeBack(), 1);
        Check.due("takeBack of the first", head.takeBack(), HeadRows.NONE);
    }

    private static void takenBackJoined() {
        Check.edge("unless one of its ROWS [..] is JOINED");
        for (int row = 0; row < 3; row++) {
            HeadRows head = new HeadRows();
            int[] lines = {3, 4, 5};
            for (int n = 0; n < 3; n++) {
                if (n != row) {
                    Check.drawn(head, "row 0 " + lines[n] + " right 1 ;");
                }
            }
            Check.drawn(head, "row 0 9 right 1 ; row 0 " + lines[row] + " right 1 ; part 0 11 right 1 ;");
            Check.due("join too far", head.join(0, 1, 2), HeadRows.NONE);
            Check.due("join", head.join(0, 1, 3), 1);
            Check.due("takeBack", head.takeBack(), HeadRows.NONE);
            Check.due("programs", head.count(8), 3);
            Check.due("rows", head.count(1), 4);
            Check.due("partings", head.count(0), 1);
        }
        HeadRows head = new HeadRows();
        Check.drawn(head, "row 0 3 right 1 ; row 0 4 right 1 ; row 0 5 right 1 ;");
        Check.drawn(head, "row 0 7 right 1 ;");
        Check.due("join", head.join(0, 1, 2), 1);
        Check.due("takeBack of another program", head.takeBack(), 1);
        Check.due("takeBack", head.takeBack(), HeadRows.NONE);
    }

    private static void numbersStay() {
        Check.edge("numbers of the others stay");
        HeadRows head = new HeadRows();
        Check.drawn(head, "row 0 0 right 1 ; row 0 2 right 2 ;");
        Check.drawn(head, "row 0 4 right 3 ; row 0 6 right 4 ;");
        Check.due("takeBack", head.takeBack(), 2);
        Check.row(head, 0, 0, 1);
        Check.row(head, 1, 32, 33, 34);
        Check.row(head, 2);
        Check.drawn(head, "row 5 9 right 1 ;");
        Check.row(head, 2, 149, 150);
        Check.row(head, 1, 32, 33, 34);
        Check.due("taken", head.taken(2, 2), 202);
    }

    private static void mostPartings() {
        Check.edge("PARTINGS, 60 at most.");
        String most = "again 5 down 1 ( again 9 right 1 ( part 1 0 down 1 ; ) ; ) ; again 5 down 1 ( again 3 right 1 ( part 10 0 down 1 ; ) ; ) ;";
        Check.drawn(new HeadRows(), most);
        Check.cannot(new HeadRows(), most + "part 0 0 down 1 ;", 9, 60);
        HeadRows head = new HeadRows();
        Check.drawn(head, most);
        Check.due("60", head.count(0), 60);
        Check.cannot(head, "part 0 0 down 1 ;", 9, 0);
        Check.cannot(head, "row 0 8 right 1 ; part 0 0 down 1 ;", 9, 1);
        // 60 are there: ahead of each other reason.
        Check.cannot(head, "part 0 0 left 1 ;", 9, 0);
        Check.cannot(head, "part 0 0 left 0 ;", 9, 0);
        Check.cannot(head, "part 1 0 down 1 ;", 9, 0);
        Check.cannot(head, "part 0 1 right 16 ;", 9, 0);
        Check.drawn(head, "row 0 8 right 1 ;");
        Check.due("takeBack of the row", head.takeBack(), 1);
        Check.due("takeBack of the partings", head.takeBack(), 60);
        Check.drawn(head, "part 0 0 down 1 ;");
        HeadRows less = new HeadRows();
        Check.drawn(less, "again 6 down 1 ( again 9 right 1 ( part 1 0 down 1 ; ) ; ) ; again 5 down 1 ( part 10 0 down 1 ; ) ;");
        Check.due("59", less.count(0), 59);
        Check.cannot(less, "part 0 0 down 1 ; part 0 1 down 1 ;", 9, 1);
        Check.drawn(less, "part 0 0 down 1 ;");
        Check.due("60", less.count(0), 60);
    }

    private static void cornerOff() {
        Check.edge("1 a CORNER of it is off the net");
        for (int n = 0; n <= 16; n++) {
            Check.cannot(new HeadRows(), "part " + n + " 1 up 2 ;", 1, 0);
            Check.cannot(new HeadRows(), "part " + n + " 11 down 2 ;", 1, 0);
        }
        for (int n = 0; n <= 12; n++) {
            Check.cannot(new HeadRows(), "part 1 " + n + " left 2 ;", 1, 0);
            Check.cannot(new HeadRows(), "part 15 " + n + " right 2 ;", 1, 0);
        }
        Check.cannot(new HeadRows(), "part 1 1 up 2 down 2 right 1 ;", 1, 0);
        Check.cannot(new HeadRows(), "part 15 3 right 2 left 1 ;", 1, 0);
        Check.cannot(new HeadRows(), "part 0 5 left 1 up 1 right 1 ;", 1, 0);
        Check.cannot(new HeadRows(), "again 2 right 9 ( part 8 5 up 1 left 1 ; ) ;", 1, 1);
        Check.cannot(new HeadRows(), "again 2 up 3 ( part 8 2 down 2 ; ) ;", 1, 1);
    }

    private static void noSide() {
        Check.edge("2 it has no SIDE");
        Check.cannot(new HeadRows(), "part 0 0 up 0 ;", 2, 0);
        Check.cannot(new HeadRows(), "part 16 12 right 0 down 0 left 0 up 0 ;", 2, 0);
        HeadRows head = new HeadRows();
        Check.drawn(head, "part 5 5 right 1 ;");
        Check.cannot(head, "part 5 5 right 0 ;", 2, 0);
        Check.cannot(head, "part 3 3 right 1 ; part 3 5 right 0 ;", 2, 1);
    }

    private static void sideTwice() {
        Check.edge("3 it has a SIDE twice");
        for (int way = 0; way < 4; way++) {
            int back = way ^ 1;
            Check.cannot(new HeadRows(), "part 5 5 " + WAYS[way] + " 1 " + WAYS[back] + " 1 ;", 3, 0);
            Check.cannot(new HeadRows(), "part 5 5 " + WAYS[way] + " 3 " + WAYS[back] + " 1 ;", 3, 0);
            Check.cannot(new HeadRows(), "part 8 6 " + WAYS[way] + " 3 " + WAYS[back] + " 6 ;", 3, 0);
        }
        Check.cannot(new HeadRows(), "part 5 5 right 2 down 1 left 1 up 1 right 1 ;", 3, 0);
        Check.cannot(new HeadRows(), "part 5 5 right 1 down 1 left 1 up 1 right 1 ;", 3, 0);
        // More sides than the net has.
        StringBuilder text = new StringBuilder("part 0 0");
        for (int n = 0; n < 16; n++) {
            text.append("right16left16");
        }
        Check.cannot(new HeadRows(), text + ";", 3, 0);
        for (int n = 0; n < 52; n++) {
            text.append("right16left16");
        }
        Check.cannot(new HeadRows(), text + ";", 3, 0);
        Check.cannot(new HeadRows(), text + "left1;", 1, 0);
    }

    private static void sideOfAnother() {
        Check.edge("3 it has a SIDE twice, or one that a PARTING has");
        HeadRows head = new HeadRows();
        Check.drawn(head, "part 5 5 right 3 ;");
        for (int n = 5; n < 8; n++) {
            Check.cannot(head, "part " + n + " 5 right 1 ;", 3, 0);
            Check.cannot(head, "part " + (n + 1) + " 5 left 1 ;", 3, 0);
        }
        Check.cannot(head, "part 5 5 right 3 ;", 3, 0);
        Check.cannot(head, "part 3 5 right 3 ;", 3, 0);
        Check.cannot(head, "part 9 5 left 2 ;", 3, 0);
        Check.cannot(head, "part 5 4 down 1 right 1 ;", 3, 0);
        Check.cannot(head, "part 6 5 right 1 up 1 ;", 3, 0);
        Check.cannot(head, "part 3 8 right 1 ; part 3 8 right 1 ;", 3, 1);
        Check.drawn(head, "part 3 5 right 2 ; part 8 5 right 2 ;");
        HeadRows border = new HeadRows();
        Check.drawn(border, "part 0 0 right 16 down 12 ;");
        Check.cannot(border, "part 16 0 left 1 ;", 3, 0);
        Check.cannot(border, "part 16 12 up 1 ;", 3, 0);
    }

    private static void cornerOnParting() {
        Check.edge("4 a CORNER of it but its first and its last is on a PARTING");
        HeadRows head = new HeadRows();
        Check.drawn(head, "part 5 5 right 3 ;");
        for (int n = 5; n <= 8; n++) {
            Check.cannot(head, "part " + n + " 4 down 2 ;", 4, 0);
            Check.cannot(head, "part " + n + " 7 up 3 ;", 4, 0);
        }
        Check.cannot(head, "part 4 5 right 1 up 1 ;", 4, 0);
        Check.cannot(head, "part 8 4 down 1 right 1 ;", 4, 0);
        Check.drawn(head, "part 4 4 down 2 ; part 9 4 down 2 ;");
        // Its first and its last may be: on an end, in between, on two partings.
        Check.drawn(head, "part 5 5 up 1 ; part 6 3 down 2 ; part 7 5 down 1 ;");
        Check.drawn(head, "part 4 5 right 1 ; part 8 5 right 1 ;");
        Check.drawn(head, "part 6 5 down 1 right 1 ;");
        Check.due("regions", head.count(2), 2);
        // On a parting of each way alone.
        HeadRows ends = new HeadRows();
        Check.drawn(ends, "part 3 3 up 1 ; part 6 3 down 1 ; part 9 3 left 1 ; part 12 3 right 1 ;");
        for (int n = 3; n <= 12; n += 3) {
            Check.cannot(ends, n < 8 ? "part " + (n - 1) + " 3 right 2 ;" : "part " + n + " 2 down 2 ;", 4, 0);
        }
        Check.due("takeBack", ends.takeBack(), 4);
        Check.drawn(ends, "again 4 right 3 ( part 2 3 right 2 ; ) ;");
    }

    // A corner at one end of the net is not on a parting at the other end, of its own line or the next.
    private static void cornerAtTheBorder() {
        Check.edge("a CORNER of it but its first and its last is on a PARTING");
        String[] ends = {"again 9 down 1 ( part 16 1 left 1 ; ) ; again 2 down 1 ( part 16 10 left 1 ; ) ;",
            "again 9 down 1 ( part 0 1 right 1 ; ) ; again 2 down 1 ( part 0 10 right 1 ; ) ;",
            "again 9 right 1 ( part 1 11 down 1 ; ) ; again 6 right 1 ( part 10 11 down 1 ; ) ;",
            "again 9 right 1 ( part 1 0 down 1 ; ) ; again 6 right 1 ( part 10 0 down 1 ; ) ;",
            "part 0 12 right 16 ;", "part 0 0 right 16 ;", "part 16 0 down 12 ;", "part 0 0 down 12 ;"};
        String[] borders = {"part 0 0 down 12 ;", "part 16 0 down 12 ;", "part 0 0 right 16 ;", "part 0 12 right 16 ;"};
        int[] free = {0, 1, 2, 3, 2, 3, 0, 1};
        for (int n = 0; n < ends.length; n++) {
            HeadRows head = new HeadRows();
            Check.drawn(head, ends[n]);
            Check.drawn(head, borders[free[n]]);
            Check.due("takeBack of the border", head.takeBack(), 1);
            Check.drawn(head, borders[free[n]].replace(";", "up 0 ;"));
            HeadRows other = new HeadRows();
            Check.drawn(other, ends[n]);
            boolean isSide = n > 3;
            Check.cannot(other, borders[free[n] ^ 1], isSide ? 3 : 4, 0);
        }
    }

    private static void cornerTwice() {
        Check.edge("or comes twice (as its first or last, too)");
        // Its first one comes as one between.
        Check.cannot(new HeadRows(), "part 5 5 right 1 down 1 left 1 up 2 ;", 4, 0);
        // One between comes as its last.
        Check.cannot(new HeadRows(), "part 4 5 right 2 down 1 left 1 up 1 ;", 4, 0);
        // One between comes twice.
        Check.cannot(new HeadRows(), "part 4 5 right 2 down 1 left 1 up 2 ;", 4, 0);
        // Its first is its last: a closed one.
        Check.drawn(new HeadRows(), "part 5 5 right 1 down 1 left 1 up 1 ;");
        Check.drawn(new HeadRows(), "part 0 0 right 16 down 12 left 16 up 12 ;");
        // All three: the first comes between and as the last.
        Check.cannot(new HeadRows(), "part 5 5 right 1 down 1 left 1 up 1 left 1 up 1 right 1 down 1 ;", 4, 0);
    }

    private static void firstReason() {
        Check.edge("A PARTING can't be, the first that holds");
        HeadRows head = new HeadRows();
        Check.drawn(head, "part 5 5 right 3 ;");
        // 1 ahead of 3, of 4, of both.
        Check.cannot(head, "part 5 5 right 1 left 6 left 1 ;", 1, 0);
        Check.cannot(head, "part 6 1 down 8 down 5 ;", 1, 0);
        Check.cannot(head, "part 6 4 down 1 left 1 right 16 ;", 1, 0);
        // 3 ahead of 4, wherever it comes.
        Check.cannot(head, "part 6 4 down 1 right 1 ;", 3, 0);
        Check.cannot(head, "part 5 4 down 2 left 1 up 1 right 2 ;", 3, 0);
        Check.cannot(head, "part 6 4 down 2 up 1 ;", 3, 0);
        Check.cannot(head, "part 3 3 right 2 down 1 left 1 up 2 down 1 ;", 3, 0);
    }

    private static void regions() {
        Check.edge("CELLS on the scalp that hang together over SIDES without a PARTING");
        HeadRows head = new HeadRows();
        Check.drawn(head, "part 5 5 right 1 down 1 left 1 ;");
        Check.due("one side is open", head.count(2), 1);
        Check.due("within", head.region(5, 5), 0);
        Check.drawn(head, "part 5 5 down 1 ;");
        Check.due("closed", head.count(2), 2);
        Check.due("one cell alone", head.region(5, 5), 85);
        Check.due("beside it", head.region(6, 5) + head.region(4, 5) + head.region(5, 4) + head.region(5, 6), 0);
        // Cells that touch at a corner alone do not hang together.
        HeadRows corner = new HeadRows();
        corner.cell(1, 0, HeadRows.NONE);
        corner.cell(0, 1, HeadRows.NONE);
        Check.due("cut off by two cells", corner.region(0, 0), 0);
        Check.due("the others", corner.region(1, 1), 2);
        Check.due("regions", corner.count(2), 2);
        Check.due("on again without a hair", corner.cell(1, 0, 0), true);
        Check.due("regions", corner.count(2), 1);
        // The columns 15 and 0 of two lines do not hang together.
        HeadRows lines = new HeadRows();
        Check.drawn(lines, "part 0 1 right 16 ;");
        Check.due("line 0", lines.region(15, 0), 0);
        Check.due("line 1", lines.region(0, 1), 16);
        Check.due("regions", lines.count(2), 2);
        // As many as can be of 60 partings.
        HeadRows most = new HeadRows();
        Check.drawn(most, "again 9 down 1 ( part 0 1 right 16 ; ) ; again 2 down 1 ( part 0 10 right 16 ; ) ; again 9 down 1 ( again 4 right 1 ( part 1 0 down 1 ; ) ; ) ;");
        Check.due("regions", most.count(2), 12 + 36);
        Check.due("the last column of line 3", most.region(15, 3), 52);
        Check.due("the third column of line 3", most.region(3, 3), 51);
    }

    private static void regionName() {
        Check.edge("the least CELL is its name.");
        HeadRows rows = new HeadRows();
        Check.drawn(rows, "part 0 6 right 16 ; row 0 8 right 1 ; row 0 0 right 1 ;");
        Check.due("takeBack", rows.takeBack(), 3);
        Check.drawn(rows, "part 0 6 right 16 ; row 5 8 right 1 ;");
        Check.drawn(rows, "row 5 10 right 1 ;");
        Check.due("above", rows.region(4, 5) + rows.region(5, 5) + rows.region(15, 0), 0);
        Check.due("beside the row and below", rows.region(4, 8) + rows.region(5, 9) + rows.region(5, 7), 3 * 96);
        Check.due("its cells", rows.region(5, 8) + rows.region(6, 8) + rows.region(0, 6), 3 * 96);
        HeadRows head = new HeadRows();
        Check.drawn(head, "part 3 12 up 9 right 4 up 2 right 2 down 11 ;");
        Check.due("partings", head.count(0), 1);
        // The least cell is in its upper line, however far to the right.
        Check.due("name at its lower left", head.region(3, 11), 23);
        Check.due("name at its upper right", head.region(8, 1), 23);
        Check.due("the rest", head.region(9, 1) + head.region(0, 11) + head.region(15, 11), 0);
        HeadRows off = new HeadRows();
        for (int cell = 0; cell < 20; cell++) {
            off.cell(cell % 16, cell / 16, HeadRows.NONE);
        }
        Check.due("the least on the scalp", off.region(0, 2), 20);
        HeadRows alone = new HeadRows();
        for (int cell = 0; cell < 191; cell++) {
            alone.cell(cell % 16, cell / 16, HeadRows.NONE);
        }
        Check.due("the last cell alone", alone.region(15, 11), 191);
        Check.due("regions", alone.count(2), 1);
    }

    private static void mostRows() {
        Check.edge("ROWS, 24 at most. A ROW can't be: 9 24 are there");
        String most = "again 8 right 2 ( again 3 down 2 ( row 0 0 down 1 ; ) ; ) ;";
        Check.cannot(new HeadRows(), most + "row 0 8 right 1 ;", 9, 24);
        HeadRows head = new HeadRows();
        Check.drawn(head, most + "part 0 7 right 16 ; part 1 10 up 1 ;");
        Check.due("24", head.count(1), 24);
        Check.due("the last row", head.row(23, 1), 16 * 5 + 14);
        Check.cannot(head, "row 0 8 right 1 ;", 9, 0);
        Check.cannot(head, "part 0 11 right 1 ; row 0 8 right 1 ;", 9, 1);
        // Ahead of each other reason.
        Check.cannot(head, "row 0 0 up 1 ;", 9, 0);
        Check.cannot(head, "row 0 9 right 1 ;", 9, 0);
        Check.cannot(head, "row 0 0 down 1 ;", 9, 0);
        Check.cannot(head, "row 0 8 right 0 ;", 9, 0);
        Check.drawn(head, "part 0 11 right 1 ;");
        Check.due("takeBack", head.takeBack(), 1);
        Check.due("takeBack", head.takeBack(), 26);
        HeadRows less = new HeadRows();
        Check.drawn(less, "again 8 right 2 ( again 2 down 2 ( row 0 0 down 1 ; ) ; ) ; again 7 right 2 ( row 0 4 down 1 ; ) ;");
        Check.due("23", less.count(1), 23);
        Check.cannot(less, "row 0 8 right 1 ; row 0 9 right 1 ;", 9, 1);
        Check.drawn(less, "row 0 8 right 1 ;");
        Check.due("24", less.count(1), 24);
    }

    private static void cellOff() {
        Check.edge("5 off the net or the scalp");
        for (int n = 0; n < 16; n++) {
            Check.cannot(new HeadRows(), "row " + n + " 1 up 2 ;", 5, 0);
            Check.cannot(new HeadRows(), "row " + n + " 10 down 2 ;", 5, 0);
        }
        for (int n = 0; n < 12; n++) {
            Check.cannot(new HeadRows(), "row 1 " + n + " left 2 ;", 5, 0);
            Check.cannot(new HeadRows(), "row 14 " + n + " right 2 ;", 5, 0);
        }
        HeadRows head = new HeadRows();
        head.cell(8, 8, HeadRows.NONE);
        head.cell(9, 9, 0);
        for (int way = 0; way < 4; way++) {
            Check.cannot(head, "row 8 8 " + WAYS[way] + " 1 ;", 5, 0);
            int column = 8 - 2 * ACROSS[way];
            int line = 8 - 2 * DOWN[way];
            Check.cannot(head, "row " + column + " " + line + " " + WAYS[way] + " 2 ;", 5, 0);
            Check.cannot(head, "row " + column + " " + line + " " + WAYS[way] + " 3 ;", 5, 0);
        }
        Check.cannot(head, "row 8 8 up 0 ;", 5, 0);
        Check.cannot(head, "again 2 right 9 ( row 7 3 right 1 ; ) ;", 5, 1);
        Check.cannot(head, "again 2 left 9 ( row 7 3 right 9 ; ) ;", 5, 0);
        Check.drawn(head, "row 9 9 right 1 ;");
    }

    private static void cellParted() {
        Check.edge("6 a PARTING is on the SIDE to the one ahead");
        for (int way = 0; way < 4; way++) {
            HeadRows head = new HeadRows();
            // A parting on one side of cell (5, 5) alone.
            String[] sides = {"part 5 5 right 1 ;", "part 5 6 right 1 ;", "part 5 5 down 1 ;", "part 6 5 down 1 ;"};
            Check.drawn(head, sides[way]);
            Check.cannot(head, "row 5 5 " + WAYS[way] + " 1 ;", 6, 0);
            int column = 5 + ACROSS[way];
            int line = 5 + DOWN[way];
            Check.cannot(head, "row " + column + " " + line + " " + WAYS[way ^ 1] + " 1 ;", 6, 0);
            Check.cannot(head, "row " + column + " " + line + " " + WAYS[way ^ 1] + " 4 ;", 6, 0);
            // Over its other sides a row may go.
            for (int other = 0; other < 4; other++) {
                if (other != way) {
                    Check.drawn(head, "row 5 5 " + WAYS[other] + " 2 ;");
                    Check.due("takeBack", head.takeBack(), 1);
                }
            }
        }
        // Of one cell: off the net or the scalp goes ahead of the parting, the parting ahead of a row's cell.
        HeadRows head = new HeadRows();
        head.cell(9, 9, HeadRows.NONE);
        Check.drawn(head, "part 16 0 down 1 ; part 9 9 down 1 ; part 4 3 down 1 ; row 4 3 right 1 ;");
        Check.cannot(head, "row 15 0 right 1 ;", 5, 0);
        Check.cannot(head, "row 8 9 right 1 ;", 5, 0);
        Check.cannot(head, "row 3 3 right 1 ;", 6, 0);
    }

    private static void cellOfRow() {
        Check.edge("7 it is of a ROW");
        HeadRows head = new HeadRows();
        Check.drawn(head, "row 0 0 right 1 ; row 5 5 right 2 ;");
        for (int n = 5; n <= 7; n++) {
            Check.cannot(head, "row " + n + " 5 down 1 ;", 7, 0);
            Check.cannot(head, "row " + n + " 4 down 1 ;", 7, 0);
            Check.cannot(head, "row " + n + " 8 up 8 ;", 7, 0);
        }
        Check.cannot(head, "row 5 5 right 0 ;", 7, 0);
        Check.cannot(head, "row 0 0 right 0 ;", 7, 0);
        Check.cannot(head, "row 0 1 up 1 ;", 7, 0);
        Check.cannot(head, "row 4 8 up 1 ; row 4 7 up 1 ;", 7, 1);
        Check.drawn(head, "row 4 5 up 1 ; row 8 5 down 1 ;");
    }

    private static void cellTwice() {
        Check.edge("7 it is of a ROW, or comes twice");
        for (int way = 0; way < 4; way++) {
            Check.cannot(new HeadRows(), "row 5 5 " + WAYS[way] + " 1 " + WAYS[way ^ 1] + " 1 ;", 7, 0);
            Check.cannot(new HeadRows(), "row 5 5 " + WAYS[way] + " 2 " + WAYS[way ^ 1] + " 1 ;", 7, 0);
        }
        // Its first one comes as its last.
        Check.cannot(new HeadRows(), "row 5 5 right 1 down 1 left 1 up 1 ;", 7, 0);
        Check.cannot(new HeadRows(), "row 5 5 right 2 down 1 left 1 up 3 ;", 7, 0);
        Check.drawn(new HeadRows(), "row 5 5 right 1 down 1 left 1 ;");
        // More cells than the net has.
        Check.cannot(new HeadRows(), "row 0 0" + "right15left15".repeat(75) + ";", 7, 0);
    }

    private static void firstCell() {
        Check.edge("of its CELLS from the first on, the first that is wrong");
        HeadRows head = new HeadRows();
        head.cell(12, 8, HeadRows.NONE);
        Check.drawn(head, "row 8 8 down 1 ; part 10 8 down 1 ;");
        Check.cannot(head, "row 7 8 right 9 ;", 7, 0);
        Check.cannot(head, "row 9 8 right 9 ;", 6, 0);
        Check.cannot(head, "row 11 8 right 9 ;", 5, 0);
        Check.cannot(head, "row 13 8 left 9 ;", 5, 0);
        Check.cannot(head, "row 11 8 left 9 ;", 6, 0);
        Check.cannot(head, "row 9 8 left 9 left 9 ;", 7, 0);
        Check.cannot(head, "row 1 3 left 1 right 1 left 9 ;", 7, 0);
        Check.cannot(head, "row 0 3 left 1 right 1 ;", 5, 0);
        Check.cannot(head, "row 8 8 left 9 ;", 7, 0);
    }

    private static void oneCell() {
        Check.edge("8 if none is: it has one CELL alone.");
        HeadRows head = new HeadRows();
        head.cell(5, 5, HeadRows.NONE);
        Check.cannot(head, "row 0 0 up 0 ;", 8, 0);
        Check.cannot(head, "row 15 11 right 0 down 0 ;", 8, 0);
        Check.cannot(head, "row 5 5 up 0 ;", 5, 0);
        Check.drawn(head, "row 8 8 right 1 ;");
        Check.cannot(head, "row 8 8 up 0 ;", 7, 0);
        Check.cannot(head, "row 3 3 up 0 right 0 ;", 8, 0);
        Check.drawn(head, "row 3 3 up 0 right 1 ;");
    }

    private static void regionNone() {
        Check.edge("The REGION of a CELL; NONE: no such CELL, off the scalp.");
        HeadRows head = new HeadRows();
        head.cell(5, 5, HeadRows.NONE);
        int[][] none = {{5, 5}, {-1, 0}, {16, 0}, {0, -1}, {0, 12}, {Integer.MIN_VALUE, 0}, {0, 1 << 28}};
        for (int[] at : none) {
            Check.due("region " + at[0] + " " + at[1], head.region(at[0], at[1]), HeadRows.NONE);
        }
        Check.due("beside it", head.region(6, 5), 0);
    }

    private static void side() {
        Check.edge("(0 above, 1 below, 2 left, 3 right): 1 or 0; NONE: none such.");
        String[] sides = {"part 5 5 right 1 ;", "part 5 6 right 1 ;", "part 5 5 down 1 ;", "part 6 5 down 1 ;"};
        for (int drawn = 0; drawn < 4; drawn++) {
            HeadRows head = new HeadRows();
            Check.drawn(head, sides[drawn]);
            for (int where = 0; where < 4; where++) {
                Check.due("side " + where, head.side(5, 5, where), where == drawn ? 1 : 0);
                int its = head.side(5 + ACROSS[drawn], 5 + DOWN[drawn], where);
                Check.due("side " + where + " of the other", its, where == (drawn ^ 1) ? 1 : 0);
            }
            int[] none = {-1, 4, 5, Integer.MIN_VALUE, Integer.MAX_VALUE};
            for (int where : none) {
                Check.due("side " + where, head.side(5, 5, where), HeadRows.NONE);
            }
            int[][] cells = {{-1, 5}, {16, 5}, {5, -1}, {5, 12}};
            for (int[] at : cells) {
                Check.due("side of " + at[0] + " " + at[1], head.side(at[0], at[1], drawn), HeadRows.NONE);
            }
        }
    }

    private static void row() {
        Check.edge("The CELL of a ROW at a step; NONE: none such.");
        HeadRows head = new HeadRows();
        Check.due("no row yet", head.row(0, 0), HeadRows.NONE);
        Check.drawn(head, "row 3 3 right 2 ; row 0 0 down 1 ;");
        Check.row(head, 0, 51, 52, 53);
        Check.row(head, 1, 0, 16);
        // A step ahead of the first is not the last one of the row ahead.
        int[][] none = {{-1, 0}, {2, 0}, {0, -1}, {1, -1}, {1, -2}, {0, 3}, {1, 2}, {0, 200}, {24, 0}, {Integer.MIN_VALUE, 0},
            {0, Integer.MIN_VALUE}, {Integer.MAX_VALUE, Integer.MAX_VALUE}};
        for (int[] at : none) {
            Check.due("row " + at[0] + " " + at[1], head.row(at[0], at[1]), HeadRows.NONE);
        }
    }
}
