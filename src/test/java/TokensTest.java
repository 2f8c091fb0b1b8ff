import java.util.Random;

/** Programs of tokens set together at random, whole and broken ones, up to a full tape and beyond: held against the Model. */
public final class TokensTest {
    private static final String[] WAYS = {"up", "down", "left", "right"};
    private static final String[] SCRAPS = {
        "(", ")", ";", "0", "7", "17", "100", " ", "\n", "a", "up", "part", "row", "again", "mirror", "mirrored", "mirrormirror",
        "Row", "-1", ",", "~", "again 2 up 0 (", "mirror (", ") ;"
    };
    private static final int RUNS = 60;
    private static final int PROGRAMS = 20;

    private final Random random;
    private final HeadRows head = new HeadRows();
    private final Model model = new Model();

    private TokensTest(long seed) {
        random = new Random(seed);
    }

    private int upTo(int most) {
        return random.nextInt(most + 1);
    }

    private boolean oneIn(int n) {
        return random.nextInt(n) == 0;
    }

    private String blank() {
        return oneIn(2) ? "" : oneIn(6) ? "\n" : " ";
    }

    private String number(int most) {
        return oneIn(60) ? "" + (most + 1) : oneIn(30) ? "0" + upTo(9) : "" + upTo(most);
    }

    private String way() {
        return WAYS[upTo(3)] + blank() + number(oneIn(3) ? 16 : 2);
    }

    private String line() {
        boolean isRow = oneIn(2);
        StringBuilder text = new StringBuilder(isRow ? "row" : "part").append(blank());
        text.append(number(isRow ? 15 : 16)).append(' ').append(number(isRow ? 11 : 12));
        for (int ways = oneIn(5) ? 6 : 1 + upTo(1); ways > 0; ways--) {
            text.append(blank()).append(way());
        }
        return text.append(blank()).append(';').toString();
    }

    private String steps(int depth, int most) {
        StringBuilder text = new StringBuilder();
        for (int steps = upTo(most); steps > 0; steps--) {
            int kind = upTo(9);
            if (kind < 4 || depth > 5) {
                text.append(line());
            } else {
                text.append(kind < 7 ? "again" + blank() + (1 + upTo(oneIn(4) ? 8 : 2)) + blank() + way() : "mirror");
                text.append(blank()).append('(').append(steps(depth + 1, 3)).append(')').append(blank()).append(';');
            }
            text.append(blank());
        }
        return text.toString();
    }

    private String broken(String text) {
        int at = upTo(text.length());
        int gone = Math.min(upTo(2), text.length() - at);
        return text.substring(0, at) + SCRAPS[upTo(SCRAPS.length - 1)] + text.substring(at + gone);
    }

    private String program() {
        String text = steps(0, oneIn(8) ? 30 : 4);
        for (int times = oneIn(3) ? 1 + upTo(2) : 0; times > 0; times--) {
            text = broken(text);
        }
        return text;
    }

    // Some signs are fed to the full tape, too: they are left out.
    private void draw(String text) {
        for (int at = 0; at < text.length() && at < 1100; at += 24) {
            long a = Check.eight(text, at);
            long b = Check.eight(text, at + 8);
            long c = Check.eight(text, at + 16);
            Check.due("feed", head.feed(a, b, c), model.feed(a, b, c));
        }
        Check.due("draw of " + text, head.draw(), model.draw());
        for (int what = 0; what < 13; what++) {
            Check.due("count " + what + " behind " + text, head.count(what), model.count(what));
        }
    }

    private void lookAtCells() {
        for (int cell = 0; cell < 192; cell++) {
            int x = cell % 16;
            int y = cell / 16;
            Check.due("region of " + cell, head.region(x, y), model.region(x, y));
            Check.due("taker of " + cell, head.taken(x, y), model.taken(x, y));
            Check.due("row of " + cell, head.look(x, y, 2), model.look(x, y, 2));
            for (int where = 0; where < 4; where++) {
                Check.due("side " + where + " of " + cell, head.side(x, y, where), model.side(x, y, where));
            }
        }
    }

    private void run() {
        for (int cells = oneIn(3) ? upTo(20) : 0; cells > 0; cells--) {
            int x = upTo(15);
            int y = upTo(11);
            Check.due("cell", head.cell(x, y, HeadRows.NONE), model.cell(x, y, HeadRows.NONE));
        }
        for (int n = 0; n < PROGRAMS; n++) {
            draw(program());
            if (oneIn(6)) {
                Check.due("takeBack", head.takeBack(), model.takeBack());
            }
        }
        lookAtCells();
    }

    public static void main(String[] args) {
        for (int seed = 1; seed <= RUNS; seed++) {
            new TokensTest(seed).run();
        }
        Check.end("TokensTest");
    }
}
