import java.util.NoSuchElementException;

/** Counts answers that are not due; feeds texts to a head. */
final class Check {
    interface Call {
        long answer();
    }

    private static int wrong = 0;
    private static int made = 0;
    private static int edges = 0;
    private static String sentence = "";

    private Check() {
    }

    /** What is looked at from here on is asked by this sentence of the document, quoted as it stands there. */
    static void edge(String quote) {
        edges++;
        sentence = "[" + quote + "] ";
    }

    static void due(String call, long got, long want) {
        made++;
        if (got != want) {
            wrong++;
            System.out.println(sentence + call + " answered " + got + ", due is " + want);
        }
    }

    static void due(String call, boolean got, boolean want) {
        due(call, got ? 1 : 0, want ? 1 : 0);
    }

    static void isNone(String call, Call made) {
        boolean thrown = false;
        try {
            made.answer();
        } catch (NoSuchElementException e) {
            thrown = true;
        }
        due(call + " throws NoSuchElementException", thrown, true);
    }

    static int feed(HeadRows head, String text) {
        int signs = head.feed(0, 0, 0);
        for (int at = 0; at < text.length(); at += 24) {
            signs = head.feed(eight(text, at), eight(text, at + 8), eight(text, at + 16));
        }
        return signs;
    }

    static int draw(HeadRows head, String text) {
        feed(head, text);
        return head.draw();
    }

    static void drawn(HeadRows head, String text) {
        due("draw of " + text, draw(head, text), 0);
    }

    /** A program without a fault that is not drawn: the reason, and how many were drawn ahead. */
    static void cannot(HeadRows head, String text, int reason, int ahead) {
        int partings = head.count(0);
        int rows = head.count(1);
        int programs = head.count(8);
        due("draw of " + text, draw(head, text), -1 - (reason + 16 * ahead));
        due("partings behind " + text, head.count(0), partings);
        due("rows behind " + text, head.count(1), rows);
        due("programs behind " + text, head.count(8), programs);
    }

    /** A program with a fault, on a head of its own. */
    static void fault(String text, int kind, int place) {
        HeadRows head = new HeadRows();
        due("fault of '" + text + "'", draw(head, text), kind + 16 * place);
        due("drawn or kept by '" + text + "'", head.count(0) + head.count(1) + head.count(8), 0);
        due("tape behind '" + text + "'", head.count(11), 0);
    }

    /** The cells of a row, and that it has no more. */
    static void row(HeadRows head, int row, int... cells) {
        for (int step = 0; step < cells.length; step++) {
            due("row " + row + " step " + step, head.row(row, step), cells[step]);
        }
        due("row " + row + " has no more", head.row(row, cells.length), HeadRows.NONE);
    }

    static void weights(HeadRows head, int row, int step, int left, int middle, int right) {
        due("left of " + row + " at " + step, head.strand(row, step, 0), left);
        due("middle of " + row + " at " + step, head.strand(row, step, 1), middle);
        due("right of " + row + " at " + step, head.strand(row, step, 2), right);
    }

    static long eight(String text, int from) {
        long packed = 0;
        for (int n = from; n < from + 8; n++) {
            packed = packed << 8 | (n < text.length() ? text.charAt(n) & 255 : 0);
        }
        return packed;
    }

    static void end(String test) {
        String of = edges > 0 ? " for " + edges + " sentences" : "";
        System.out.println(test + ": " + made + " answers looked at" + of + ", " + wrong + " not as due");
        if (wrong > 0 || made == 0) {
            System.exit(1);
        }
    }
}
