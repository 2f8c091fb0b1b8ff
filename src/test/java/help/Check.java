import java.util.NoSuchElementException;

/** Counts answers that are not due; feeds texts to a head. */
final class Check {
    interface Call {
        long answer();
    }

    private static int wrong = 0;
    private static int made = 0;

    private Check() {
    }

    static void due(String call, long got, long want) {
        made++;
        if (got != want) {
            wrong++;
            System.out.println(call + " answered " + got + ", due is " + want);
        }
    }

    static void due(String call, boolean got, boolean want) {
        due(call, got ? 1 : 0, want ? 1 : 0);
    }

    static void isNone(String call, Call made) {
        boolean thrown = false;
        try {
            made.answer();
        } catch (NoSuchElementException e) {
            thrown = true;
        }
        due(call + " throws NoSuchElementException", thrown, true);
    }

    static int feed(HeadRows head, String text) {
        int signs = head.feed(0, 0, 0);
        for (int at = 0; at < text.length(); at += 24) {
            signs = head.feed(eight(text, at), eight(text, at + 8), eight(text, at + 16));
        }
        return signs;
    }

    static int draw(HeadRows head, String text) {
        feed(head, text);
        return head.draw();
    }

    static void drawn(HeadRows head, String text) {
        due("draw of " + text, draw(head, text), 0);
    }

    static long eight(String text, int from) {
        long packed = 0;
        for (int n = from; n < from + 8; n++) {
            packed = packed << 8 | (n < text.length() ? text.charAt(n) & 255 : 0);
        }
        return packed;
    }

    static void end(String test) {
        System.out.println(test + ": " + made + " answers looked at, " + wrong + " not as due");
        if (wrong > 0 || made == 0) {
            System.exit(1);
        }
    }
}
