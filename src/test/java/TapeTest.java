/** Promise 4 (feed), and the faults of promise 5 (draw). */
public final class TapeTest {
    public static void main(String[] args) {
        signs();
        fullTape();
        emptied();
        tokens();
        places();
        numbers();
        nested();
        Check.end("TapeTest");
    }

    private static void fine(String text) {
        Check.drawn(new HeadRows(), text);
    }

    private static void signs() {
        HeadRows head = new HeadRows();
        Check.due("nothing", head.feed(0, 0, 0), 0);
        Check.due("9, 10, 11, 13, 31, 32, 126, 127", head.feed(0x090A0B0D1F207E7FL, 0, 0), 3);
        Check.due("signs beyond 127", head.feed(0x8081A0AFFFFEC3BCL, -1, Long.MIN_VALUE), 3);
        Check.due("count 11", head.count(11), 3);
        // The order: a, b, c, of each the highest byte first.
        HeadRows other = new HeadRows();
        other.feed(Check.eight("row 1 2 ", 0), Check.eight("right 1 ", 0), Check.eight(";", 0));
        Check.due("draw", other.draw(), 0);
        Check.due("row", other.row(0, 0), 33);
    }

    private static void fullTape() {
        HeadRows head = new HeadRows();
        for (int n = 1; n <= 41; n++) {
            Check.due("feed", head.feed(0x2020202020202020L, 0x2020202020202020L, 0x2020202020202020L), 24 * n);
        }
        Check.due("984 and 24", Check.feed(head, "               ;;;;;;;;;"), 1000);
        Check.due("full", Check.feed(head, ";"), 1000);
        Check.due("count 11", head.count(11), 1000);
        Check.due("sign 999", head.draw(), 1 + 16 * 999);
        Check.due("empty", head.count(11), 0);
        String program = "row 3 3 down 1 ;";
        HeadRows other = new HeadRows();
        Check.due("1000", Check.feed(other, " ".repeat(984) + program), 1000);
        Check.due("to the last sign", other.draw(), 0);
        Check.due("rows", other.count(1), 1);
        Check.due("1000", Check.feed(other, " ".repeat(989) + "row 3 4 up"), 999);
        Check.due("1000", Check.feed(other, "x;"), 1000);
        Check.due("a word at the end", other.draw(), 1 + 16 * 997);
        Check.feed(other, " ".repeat(990) + "row 3 4 up");
        Check.due("a way at the end", other.draw(), 1 + 16 * 1000);
        StringBuilder words = new StringBuilder();
        for (int n = 0; n < 250; n++) {
            words.append("up0;");
        }
        words.replace(0, 8, "part9 9 ");
        for (int n = 11; n < 999; n += 4) {
            words.setCharAt(n, ' ');
        }
        Check.due("1000", Check.feed(other, words.toString()), 1000);
        Check.due("248 ways without a side", other.draw(), -1 - 2);
    }

    private static void emptied() {
        HeadRows head = new HeadRows();
        Check.due("fault", Check.draw(head, "row"), 1 + 16 * 3);
        Check.due("emptied by a fault", head.count(11), 0);
        Check.due("can't be", Check.draw(head, "row 0 0 up 1 ;"), -1 - 5);
        Check.due("emptied by what can't be", head.count(11), 0);
        Check.drawn(head, "row 0 0 right 1 ;");
        Check.due("emptied by a program", head.count(11), 0);
        Check.due("an empty tape", head.draw(), 0);
        Check.due("programs", head.count(8), 1);
    }

    private static void tokens() {
        fine("");
        fine(" \n ");
        fine("row0 0right1;");
        fine("row\n00\n00\nright01\n;\n");
        fine("part 0 0down1right1;row5 5up1;");
        Check.fault("rows 0 0 right 1 ;", 1, 0);
        Check.fault("row 0 0 righ 1 ;", 1, 8);
        Check.fault("row 0 0 rightright 1 ;", 1, 8);
        Check.fault("row 0 0 Right 1 ;", 1, 8);
        Check.fault("row 000 0 right 1 ;", 1, 4);
        Check.fault("row 0 0 right 1234567890123456789012345 ;", 1, 14);
        Check.fault("row 0 0 right 1 : ;", 1, 16);
        Check.fault("row 0 0 right 1;}", 1, 16);
        Check.fault("row 0-0 right 1 ;", 1, 5);
        Check.fault("rowx0 0 right 1 ;", 1, 0);
        Check.fault("rowz", 1, 0);
        Check.fault("arow", 1, 0);
        Check.fault("sow 0 0 right 1 ;", 1, 0);
        Check.fault("cart 0 0 right 1 ;", 1, 0);
        Check.fault("row 0 0 ap 1 ;", 1, 8);
        Check.fault("row 0 0 `up 1 ;", 1, 8);
        Check.fault("row 0 0 up{ 1 ;", 1, 10);
        Check.fault("row 0 0 up /1 ;", 1, 11);
        Check.fault("row 0 0 up :1 ;", 1, 11);
        Check.fault("row+ 0 0 right 1 ;", 1, 3);
        Check.fault("mirro ( ) ;", 1, 0);
        Check.fault("partpartpartpart", 1, 0);
    }

    private static void places() {
        Check.fault("5", 1, 0);
        Check.fault("  ;", 1, 2);
        Check.fault("up 1 ;", 1, 0);
        Check.fault("row", 1, 3);
        Check.fault("row   ", 1, 6);
        Check.fault("row up 0 right 1 ;", 1, 4);
        Check.fault("row 0 right 1 ;", 1, 6);
        Check.fault("row 0 0 ;", 1, 8);
        Check.fault("row 0 0 part 1 ;", 1, 8);
        Check.fault("row 0 0 right 1 part ;", 1, 16);
        Check.fault("row 0 0 right ;", 1, 14);
        Check.fault("row 0 0 right 1 2 ;", 1, 16);
        Check.fault("row 0 0 right 1", 1, 15);
        Check.fault("row 0 0 right 1 row 1 1 right 1 ;", 1, 16);
        Check.fault("row 0 0 right 1 )", 1, 16);
        Check.fault("again 2 ( ) ;", 1, 8);
        Check.fault("again up 1 ( ) ;", 1, 6);
        Check.fault("again 2 up 1 right 1 ( ) ;", 1, 13);
        Check.fault("again 2 up 1 ;", 1, 13);
        Check.fault("mirror ;", 1, 7);
        Check.fault("mirror 2 ( ) ;", 1, 7);
        Check.fault("mirror ( )", 1, 10);
        Check.fault("mirror ( ) row 0 0 right 1 ;", 1, 11);
        Check.fault("mirror ( ", 1, 9);
        Check.fault(") ;", 1, 0);
        Check.fault("mirror ( ) ; ) ;", 1, 13);
        Check.fault("mirror ( ; ) ;", 1, 9);
    }

    private static void numbers() {
        fine("part 16 12 up 1 ;");
        fine("row 15 11 up 1 ;");
        fine("part 0 0 right 16 ;");
        fine("again 9 up 16 ( ) ;");
        Check.fault("part 17 12 up 1 ;", 4, 5);
        Check.fault("part 16 13 up 1 ;", 4, 8);
        Check.fault("row 16 11 up 1 ;", 4, 4);
        Check.fault("row 15 12 up 1 ;", 4, 7);
        Check.fault("row 0 0 right 17 ;", 4, 14);
        Check.fault("row 0 0 right 1 down 99 ;", 4, 21);
        Check.fault("again 0 up 1 ( ) ;", 4, 6);
        Check.fault("again 10 up 1 ( ) ;", 4, 6);
        Check.fault("again 1 up 17 ( ) ;", 4, 11);
        Check.fault("part 17 13 nonsense", 4, 5);
    }

    private static void nested() {
        String open = "mirror ( again 2 up 1 ( mirror ( again 1 up 0 ( ";
        fine(open + ") ; ) ; ) ; ) ;");
        fine(open + ") ; ) ; ) ; mirror ( ) ; ) ; mirror ( ) ;");
        Check.fault(open + "mirror ( ) ; ) ; ) ; ) ; ) ;", 5, open.length());
        Check.fault(open + "again 0 ( ) ; ) ; ) ; ) ; ) ;", 5, open.length());
        Check.fault(open + "part again", 1, open.length() + 5);
        Check.fault(open + ") ; ) ; ) ; ", 1, open.length() + 12);
    }
}
