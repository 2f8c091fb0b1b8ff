/** Terms 1, promises 1 to 3, and how long an object is used: a test for each sentence that names an edge. */
public final class HeadEdgesTest {
    // 16 * (1 << 28) is 0 in an int: a line so far off must not come round to cell 0.
    private static final int[] FAR = {Integer.MIN_VALUE, -(1 << 28), -100, 100, 1 << 28, Integer.MAX_VALUE};

    public static void main(String[] args) {
        net();
        numbers();
        corners();
        sides();
        hairs();
        offTheScalp();
        firstLength();
        lengths();
        toldNoMoreBehindParting();
        toldNoMoreBehindRow();
        toldNoMoreBehindWeek();
        newObject();
        objectsApart();
        cellRefused();
        lengthRefused();
        lastCall();
        Check.end("HeadEdgesTest");
    }

    private static void net() {
        Check.edge("A HEAD has 16 columns (0 to 15) and 12 lines (0 to 11) of CELLS");
        for (int column = -2; column <= 17; column++) {
            for (int line = -2; line <= 13; line++) {
                askCell(column, line, column >= 0 && column <= 15 && line >= 0 && line <= 11);
            }
        }
        for (int far : FAR) {
            askCell(far, 0, false);
            askCell(0, far, false);
            askCell(far, far, false);
        }
    }

    private static void askCell(int column, int line, boolean isCell) {
        HeadRows head = new HeadRows();
        String at = " " + column + " " + line;
        Check.due("region" + at, head.region(column, line), isCell ? 0 : HeadRows.NONE);
        Check.due("taken" + at, head.taken(column, line), isCell ? -2 : HeadRows.NONE);
        Check.due("side" + at, head.side(column, line, 0), isCell ? 0 : HeadRows.NONE);
        if (isCell) {
            Check.due("look" + at, head.look(column, line, 0), 10);
        } else {
            Check.isNone("look" + at, () -> head.look(column, line, 0));
        }
        Check.due("cell" + at, head.cell(column, line, 11), isCell);
        Check.due("all hairs behind cell" + at, head.count(5), isCell ? 1921 : 1920);
    }

    private static void numbers() {
        Check.edge("a CELL's number is 16 * line + column");
        for (int line = 0; line < 12; line++) {
            for (int column = 0; column < 16; column++) {
                HeadRows head = new HeadRows();
                int number = 16 * line + column;
                int way = column < 15 ? 1 : -1;
                Check.drawn(head, "row " + column + " " + line + (way > 0 ? " right 1 ;" : " left 1 ;"));
                Check.row(head, 0, number, number + way);
            }
        }
    }

    private static void corners() {
        Check.edge("CORNERS are 0 to 16 across, 0 to 12 down");
        for (int across = 0; across <= 16; across++) {
            for (int down = 0; down <= 12; down++) {
                askWays(across, down);
            }
        }
        HeadRows head = new HeadRows();
        Check.drawn(head, "part 0 0 right 16 down 12 left 16 up 12 ;");
        Check.due("regions within the border", head.count(2), 1);
        for (int n = 0; n < 16; n++) {
            Check.due("upper and lower border", head.side(n, 0, 0) + head.side(n, 11, 1), 2);
        }
        for (int n = 0; n < 12; n++) {
            Check.due("left and right border", head.side(0, n, 2) + head.side(15, n, 3), 2);
        }
    }

    private static void askWays(int across, int down) {
        String from = "part " + across + " " + down;
        Check.due(from + " up", Check.draw(new HeadRows(), from + " up 1 ;"), down > 0 ? 0 : -2);
        Check.due(from + " down", Check.draw(new HeadRows(), from + " down 1 ;"), down < 12 ? 0 : -2);
        Check.due(from + " left", Check.draw(new HeadRows(), from + " left 1 ;"), across > 0 ? 0 : -2);
        Check.due(from + " right", Check.draw(new HeadRows(), from + " right 1 ;"), across < 16 ? 0 : -2);
    }

    private static void sides() {
        Check.edge("a SIDE lies between two CORNERS one apart");
        for (int across = 0; across <= 16; across++) {
            for (int down = 0; down <= 12; down++) {
                if (across < 16) {
                    HeadRows head = new HeadRows();
                    Check.drawn(head, "part " + across + " " + down + " right 1 ;");
                    sidesOf(head, across, down, 0, across, down - 1, 1);
                }
                if (down < 12) {
                    HeadRows head = new HeadRows();
                    Check.drawn(head, "part " + across + " " + down + " down 1 ;");
                    sidesOf(head, across, down, 2, across - 1, down, 3);
                }
            }
        }
    }

    // A side is one of the cell behind it and one of the cell ahead of it, where there are such.
    private static void sidesOf(HeadRows head, int column, int line, int where, int other, int otherLine, int its) {
        int cells = 0;
        for (int n = -1; n <= 1; n++) {
            for (int m = -1; m <= 1; m++) {
                for (int w = 0; w < 4; w++) {
                    cells += Math.max(0, head.side(column + n, line + m, w));
                }
            }
        }
        int behind = head.side(column, line, where);
        int ahead = head.side(other, otherLine, its);
        boolean isBehind = column < 16 && line < 12;
        boolean isAhead = other >= 0 && otherLine >= 0;
        Check.due("the cell behind", behind, isBehind ? 1 : HeadRows.NONE);
        Check.due("the cell ahead", ahead, isAhead ? 1 : HeadRows.NONE);
        Check.due("all sides near", cells, (isBehind ? 1 : 0) + (isAhead ? 1 : 0));
    }

    private static void hairs() {
        Check.edge("It has hairs (0 to 99; 10 at first)");
        Check.due("at first", new HeadRows().look(7, 7, 0), 10);
        for (int hairs = 0; hairs <= 99; hairs++) {
            HeadRows head = new HeadRows();
            Check.due("cell with " + hairs, head.cell(7, 7, hairs), true);
            Check.due("look with " + hairs, head.look(7, 7, 0), hairs);
            Check.due("all with " + hairs, head.count(5), 1910 + hairs);
        }
    }

    private static void offTheScalp() {
        Check.edge("or is off the scalp");
        HeadRows head = new HeadRows();
        Check.due("cell off", head.cell(0, 0, HeadRows.NONE), true);
        Check.due("look", head.look(0, 0, 0), HeadRows.NONE);
        Check.due("region", head.region(0, 0), HeadRows.NONE);
        Check.due("taken", head.taken(0, 0), HeadRows.NONE);
        Check.due("all hairs", head.count(5), 1910);
        Check.due("loose", head.count(3), 191);
        Check.due("on again without a hair", head.cell(0, 0, 0), true);
        Check.due("region", head.region(0, 0), 0);
        Check.due("taken", head.taken(0, 0), -2);
        HeadRows none = new HeadRows();
        for (int cell = 0; cell < 192; cell++) {
            none.cell(cell % 16, cell / 16, HeadRows.NONE);
        }
        Check.due("regions of no scalp", none.count(2), 0);
        Check.due("loose of no scalp", none.count(3), 0);
        Check.due("hairs of no scalp", none.count(5), 0);
        Check.cannot(none, "row 0 0 right 1 ;", 5, 0);
        Check.drawn(none, "part 0 0 right 16 ;");
    }

    private static void firstLength() {
        Check.edge("All hair is so long (20 to 2000 mm, 200 at first).");
        Check.due("at first", new HeadRows().count(10), 200);
        HeadRows head = Heads.strip(0, 9);
        Check.drawn(head, "row 4 5 left 1 ;");
        Check.due("hangs with the first length", head.hangs(0), 190);
    }

    private static void lengths() {
        Check.edge("All hair is so long (20 to 2000 mm");
        int[] fine = {20, 21, 199, 200, 201, 1999, 2000};
        for (int mm : fine) {
            HeadRows head = new HeadRows();
            Check.due("length " + mm, head.length(mm), true);
            Check.due("count 10", head.count(10), mm);
        }
        int[] wrong = {Integer.MIN_VALUE, -20, -1, 0, 1, 19, 2001, 2020, Integer.MAX_VALUE};
        for (int mm : wrong) {
            HeadRows head = new HeadRows();
            Check.due("length " + mm, head.length(mm), false);
            Check.due("count 10 behind " + mm, head.count(10), 200);
        }
    }

    private static void toldNoMoreBehindParting() {
        Check.edge("CELLS and length are told as long as there is no PARTING");
        toldNoMore("part 0 0 right 1 ;");
    }

    private static void toldNoMoreBehindRow() {
        Check.edge("CELLS and length are told as long as there is [..] no ROW");
        toldNoMore("row 0 0 right 1 ;");
    }

    private static void toldNoMore(String program) {
        HeadRows head = new HeadRows();
        Check.feed(head, program);
        Check.due("cell ahead of draw", head.cell(5, 5, 1), true);
        Check.due("length ahead of draw", head.length(100), true);
        Check.due("draw", head.draw(), 0);
        Check.due("cell", head.cell(5, 5, 2), false);
        Check.due("cell off", head.cell(5, 5, HeadRows.NONE), false);
        Check.due("length", head.length(101), false);
        Check.due("hairs stay", head.look(5, 5, 0), 1);
        Check.due("length stays", head.count(10), 100);
        Check.due("takeBack", head.takeBack(), 1);
        Check.due("cell behind takeBack", head.cell(5, 5, 2), true);
        Check.due("length behind takeBack", head.length(101), true);
        Check.due("a program that can't be", Check.draw(head, program + program) < 0, true);
        Check.due("cell behind it", head.cell(5, 5, 3), true);
        Check.due("a fault", Check.draw(head, program + "x") > 0, true);
        Check.due("length behind it", head.length(102), true);
    }

    private static void toldNoMoreBehindWeek() {
        Check.edge("CELLS and length are told as long as there is [..] no WEEK went by");
        HeadRows head = new HeadRows();
        Check.due("weeks 0", head.weeks(0), 0);
        Check.due("weeks -1", head.weeks(-1), HeadRows.NONE);
        Check.due("weeks 21", head.weeks(21), HeadRows.NONE);
        Check.due("cell", head.cell(5, 5, 1), true);
        Check.due("length", head.length(100), true);
        Check.due("weeks 1", head.weeks(1), 1);
        Check.due("cell in week 1", head.cell(5, 5, 2), false);
        Check.due("length in week 1", head.length(200), false);
        Check.due("hairs stay", head.look(5, 5, 0), 1);
        Check.due("length is what has grown", head.count(10), 103);
    }

    private static void newObject() {
        Check.edge("A HEAD with 10 hairs in each CELL, 200 mm long, no PARTING, no ROW.");
        for (int cell = 0; cell < 192; cell++) {
            Check.due("hairs of " + cell, new HeadRows().look(cell % 16, cell / 16, 0), 10);
        }
        HeadRows head = new HeadRows();
        Check.due("length", head.count(10), 200);
        Check.due("partings", head.count(0), 0);
        Check.due("rows", head.count(1), 0);
        Check.due("regions", head.count(2), 1);
        Check.due("loose", head.count(3), 192);
        Check.due("unlike", head.count(4), 0);
        Check.due("weights", head.count(6), 0);
        Check.due("joins", head.count(7), 0);
        Check.due("programs", head.count(8), 0);
        Check.due("week", head.count(9), 0);
        Check.due("signs", head.count(11), 0);
        Check.due("added", head.count(12), 0);
        for (int cell = 0; cell < 192; cell += 5) {
            for (int where = 0; where < 4; where++) {
                Check.due("side of " + cell, head.side(cell % 16, cell / 16, where), 0);
            }
        }
        Check.due("row 0", head.row(0, 0), HeadRows.NONE);
        Check.due("takeBack", head.takeBack(), HeadRows.NONE);
    }

    private static void objectsApart() {
        Check.edge("A HEAD with 10 hairs in each CELL");
        HeadRows one = new HeadRows();
        one.cell(3, 3, 50);
        one.length(500);
        Check.drawn(one, "row 3 3 right 1 ; part 0 6 right 16 ;");
        Check.feed(one, "row");
        one.weeks(3);
        HeadRows other = new HeadRows();
        int[] due = {0, 0, 1, 192, 0, 1920, 0, 0, 0, 0, 200, 0, 0};
        for (int what = 0; what < due.length; what++) {
            Check.due("count " + what + " of the second object", other.count(what), due[what]);
        }
    }

    private static void cellRefused() {
        Check.edge("false: no such CELL, other hairs, it can't be told any more.");
        HeadRows head = new HeadRows();
        int[] wrong = {Integer.MIN_VALUE, -100, -3, -2, 100, 101, 1000, Integer.MAX_VALUE};
        for (int hairs : wrong) {
            Check.due("cell with " + hairs, head.cell(4, 4, hairs), false);
            Check.due("hairs behind " + hairs, head.look(4, 4, 0), 10);
        }
        Check.due("no such cell and other hairs", head.cell(16, 12, 100), false);
        Check.due("no such cell off the scalp", head.cell(-1, 0, HeadRows.NONE), false);
        Check.due("all hairs", head.count(5), 1920);
    }

    private static void lengthRefused() {
        Check.edge("false: another length, it can't be told any more.");
        HeadRows head = new HeadRows();
        Check.due("length 300", head.length(300), true);
        Check.due("length 19", head.length(19), false);
        Check.due("length 2001", head.length(2001), false);
        Check.due("length stays", head.count(10), 300);
        Check.due("length anew", head.length(20), true);
        Check.due("length", head.count(10), 20);
    }

    private static void lastCall() {
        Check.edge("An object is used for at most 512 calls after it has been made");
        HeadRows head = new HeadRows();
        for (int call = 1; call <= 507; call += 3) {
            Check.due("feed", head.feed(Check.eight("row 0 0r", 0), Check.eight("ight1;", 0), 0), 14);
            Check.due("draw", head.draw(), 0);
            Check.due("takeBack", head.takeBack(), 1);
        }
        Check.due("call 508", head.feed(Check.eight("part8 0d", 0), Check.eight("own12;", 0), 0), 14);
        Check.due("call 509", head.draw(), 0);
        Check.due("call 510", head.region(15, 11), 8);
        Check.due("call 511", head.side(8, 11, 2), 1);
        Check.due("call 512", head.count(3), 192);
    }
}
