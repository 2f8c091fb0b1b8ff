/** Promises 1 (a new object), 2 (cell), 3 (length). */
public final class HeadTest {
    public static void main(String[] args) {
        newObject();
        cells();
        lengths();
        toldNoMore();
        Check.end("HeadTest");
    }

    private static void newObject() {
        HeadRows head = new HeadRows();
        Check.due("NONE", HeadRows.NONE, -1);
        int[] due = {0, 0, 1, 192, 0, 1920, 0, 0, 0, 0, 200, 0, 0};
        for (int what = 0; what < due.length; what++) {
            Check.due("count " + what, head.count(what), due[what]);
        }
        for (int cell = 0; cell < 192; cell++) {
            HeadRows other = new HeadRows();
            Check.due("look", other.look(cell % 16, cell / 16, 0), 10);
            Check.due("taken", other.taken(cell % 16, cell / 16), -2);
            Check.due("region", other.region(cell % 16, cell / 16), 0);
        }
    }

    private static void cells() {
        HeadRows head = new HeadRows();
        Check.due("cell 0", head.cell(0, 0, 0), true);
        Check.due("cell 99", head.cell(15, 11, 99), true);
        Check.due("cell off", head.cell(3, 2, HeadRows.NONE), true);
        Check.due("cell 100", head.cell(4, 4, 100), false);
        Check.due("cell -2", head.cell(4, 4, -2), false);
        Check.due("column -1", head.cell(-1, 4, 1), false);
        Check.due("column 16", head.cell(16, 4, 1), false);
        Check.due("line -1", head.cell(4, -1, 1), false);
        Check.due("line 12", head.cell(4, 12, 1), false);
        Check.due("far off", head.cell(Integer.MAX_VALUE, Integer.MIN_VALUE, 1), false);
        Check.due("look 0", head.look(0, 0, 0), 0);
        Check.due("look 99", head.look(15, 11, 0), 99);
        Check.due("look off", head.look(3, 2, 0), HeadRows.NONE);
        Check.due("look untold", head.look(4, 4, 0), 10);
        Check.due("all hairs", head.count(5), 189 * 10 + 99);
        Check.due("again", head.cell(3, 2, 5), true);
        Check.due("look again", head.look(3, 2, 0), 5);
    }

    private static void lengths() {
        HeadRows head = new HeadRows();
        Check.due("length 19", head.length(19), false);
        Check.due("length 2001", head.length(2001), false);
        Check.due("length untold", head.count(10), 200);
        Check.due("length 20", head.length(20), true);
        Check.due("length told", head.count(10), 20);
        Check.due("length 2000", head.length(2000), true);
        Check.due("length told", head.count(10), 2000);
    }

    private static void toldNoMore() {
        String[] programs = {"part 0 0 right 1 ;", "row 0 0 right 1 ;"};
        for (String program : programs) {
            HeadRows head = new HeadRows();
            Check.drawn(head, program);
            Check.due("cell behind " + program, head.cell(5, 5, 1), false);
            Check.due("length behind " + program, head.length(100), false);
            Check.due("takeBack", head.takeBack(), 1);
            Check.due("cell behind takeBack", head.cell(5, 5, 1), true);
            Check.due("length behind takeBack", head.length(100), true);
        }
        HeadRows head = new HeadRows();
        Check.due("weeks 0", head.weeks(0), 0);
        Check.due("cell in week 0", head.cell(5, 5, 1), true);
        Check.due("weeks 1", head.weeks(1), 1);
        Check.due("cell in week 1", head.cell(5, 5, 1), false);
        Check.due("length in week 1", head.length(100), false);
    }
}
