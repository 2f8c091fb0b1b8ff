import java.util.NoSuchElementException;

/** Calls with any arguments in any state: nothing but what the document names is ever thrown, and no call's answer changes the state that it only asks for. */
public final class WildTest {
    private static final int[] ODD = {
        Integer.MIN_VALUE, Integer.MIN_VALUE + 1, -200, -2, -1, 0, 1, 2, 3, 4, 5, 7, 8, 11, 12, 15, 16, 17, 23, 24,
        59, 60, 99, 100, 191, 192, 199, 200, 1000, 2000, 2001, Integer.MAX_VALUE - 1, Integer.MAX_VALUE
    };
    private static final String SIGNS = "part row again mirror up down left right 0123456789(); \n%Zz";
    private static final String[] PROGRAMS = {
        "again 8 right 2 ( again 3 down 2 ( row 0 0 down 1 ; ) ; ) ;",
        "again 6 down 2 ( again 9 right 1 ( part 1 0 down 1 ; ) ; ) ;",
        "mirror ( again 2 right 3 ( row 0 10 right 1 ; part 0 9 right 1 ; ) ; ) ;",
        "row 0 0 right 15 down 1 left 15 down 1 right 15 down 1 left 15 down 8 right 15 ;",
        "again 9 right 16 ( again 9 down 16 ( again 9 left 16 ( again 9 up 16 ( row 5 5 up 1 ; ) ; ) ; ) ; ) ;",
        "part 3 3 right 5 down 5 left 5 up 5 ; part 0 0 right 16 down 12 left 16 up 12 ;",
        "row 7 6 right 1 ;", "row 0 11 right 15 ;", "part 8 0 down 12 ;"
    };

    private long state;
    private final HeadRows head = new HeadRows();

    private WildTest(long seed) {
        state = seed * 104729 + 3;
    }

    private int upTo(int most) {
        state = state * 6364136223846793005L + 1442695040888963407L;
        return (int) ((state >>> 33) % (most + 1));
    }

    private int odd() {
        return upTo(1) == 0 ? upTo(25) - 1 : ODD[upTo(ODD.length - 1)];
    }

    private void call() {
        int a = odd();
        int b = odd();
        int c = odd();
        switch (upTo(27)) {
            case 0: head.cell(a, b, c); break;
            case 1: head.length(a); break;
            case 2: Check.feed(head, SIGNS.substring(upTo(SIGNS.length() - 1))); break;
            case 3: head.draw(); break;
            case 4: Check.draw(head, PROGRAMS[upTo(PROGRAMS.length - 1)]); break;
            case 5: head.takeBack(); break;
            case 6: head.region(a, b); break;
            case 7: head.taken(a, b); break;
            case 8: head.side(a, b, c); break;
            case 9: head.row(a, b); break;
            case 10: strand(a, b, c); break;
            case 11: head.added(a, b, c, odd()); break;
            case 12: head.pull(a); break;
            case 13: head.even(a); break;
            case 14: head.hangs(a); break;
            case 15: head.join(a, b, c); break;
            case 16: look(a, b, c); break;
            case 17: head.work(a); break;
            case 18: head.hands(a, b, c); break;
            case 19: head.plan(a); break;
            case 20: head.planned(a); break;
            case 21: head.done(); break;
            case 22: head.weeks(a); break;
            case 23: head.holds(a); break;
            case 24: head.isOut(a); break;
            case 25: head.redo(a); break;
            case 26: head.feed((long) a * b * c, (long) a << 32 | b, ~(long) c); break;
            default: head.count(a);
        }
    }

    private void strand(int a, int b, int c) {
        boolean isThere = head.row(a, b) != HeadRows.NONE && c >= 0 && c <= 5;
        boolean answered = true;
        try {
            head.strand(a, b, c);
        } catch (NoSuchElementException e) {
            answered = false;
        }
        Check.due("strand answers", answered, isThere);
    }

    private void look(int a, int b, int c) {
        boolean isThere = a >= 0 && a < 16 && b >= 0 && b < 12 && c >= 0 && c <= 2;
        boolean answered = true;
        try {
            head.look(a, b, c);
        } catch (NoSuchElementException e) {
            answered = false;
        }
        Check.due("look answers", answered, isThere);
    }

    /** All that can be asked for, as one number. */
    private long everything() {
        long sum = 0;
        for (int what = 0; what < 13; what++) {
            sum = 31 * sum + head.count(what);
        }
        for (int cell = 0; cell < 192; cell++) {
            sum = 31 * sum + head.region(cell % 16, cell / 16);
            sum = 31 * sum + head.taken(cell % 16, cell / 16);
            sum = 31 * sum + head.look(cell % 16, cell / 16, cell % 3);
        }
        for (int row = 0; row < 24; row++) {
            sum = 31 * sum + head.pull(row) + 3 * head.even(row) + 5 * head.hangs(row) + 7 * head.work(row);
            sum = 31 * sum + head.planned(row) + 3 * head.holds(row) + 5 * head.isOut(row);
        }
        return 31 * sum + head.plan(0) + 3 * head.plan(1) + 5 * head.plan(2);
    }

    public static void main(String[] args) {
        for (int seed = 0; seed < 300; seed++) {
            WildTest test = new WildTest(seed);
            for (int n = 0; n < 500; n++) {
                test.call();
            }
            long before = test.everything();
            Check.due("asking changes nothing", test.everything(), before);
        }
        Check.end("WildTest");
    }
}
