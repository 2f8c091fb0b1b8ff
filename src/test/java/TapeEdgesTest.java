import java.util.ArrayList;
import java.util.List;

/** Terms 2 up to the FAULTS, promise 4, and the faults of promise 5: a test for each sentence that names an edge. */
public final class TapeEdgesTest {
    private static final String[] WAYS = {"up", "down", "left", "right"};

    public static void main(String[] args) {
        mostSigns();
        signs();
        taken();
        asLongAsCanBe();
        blanks();
        words();
        longWords();
        numbers();
        letterBehindNumber();
        otherSigns();
        longerAtItsFirstSign();
        anyNumberOfSteps();
        anyMoreWays();
        stepsInBrackets();
        partRange();
        rowRange();
        againRange();
        wayRange();
        nested();
        textLength();
        firstToken();
        leastKind();
        kindOne();
        kindFour();
        kindFive();
        bytes();
        leftOut();
        empty();
        Check.end("TapeEdgesTest");
    }

    private static void mostSigns() {
        Check.edge("The TAPE has at most 1,000 signs");
        String program = "row 3 3 up 1;";
        HeadRows exact = new HeadRows();
        Check.due("1000 signs", Check.feed(exact, " ".repeat(987) + program), 1000);
        Check.due("count 11", exact.count(11), 1000);
        Check.due("draw of 1000 signs", exact.draw(), 0);
        Check.due("rows", exact.count(1), 1);
        HeadRows one = new HeadRows();
        Check.due("999 signs", Check.feed(one, " ".repeat(986) + program), 999);
        Check.due("one more", one.feed(32, 0, 0), 1000);
        Check.due("and one", one.feed(';', 0, 0), 1000);
        Check.due("draw, the 1001st left out", one.draw(), 0);
        HeadRows more = new HeadRows();
        Check.due("1001 signs", Check.feed(more, " ".repeat(988) + program), 1000);
        Check.due("its last sign is left out", more.draw(), 1 + 16 * 1000);
        HeadRows last = new HeadRows();
        Check.due("1000 signs", Check.feed(last, " ".repeat(999) + "x"), 1000);
        Check.due("the last place", last.draw(), 1 + 16 * 999);
        Check.due("empty again", last.count(11), 0);
        Check.due("full a second time", Check.feed(last, "y".repeat(1024)), 1000);
        Check.due("a word of 1000 letters", last.draw(), 1);
    }

    private static void signs() {
        Check.edge("10 and 32 .. 126");
        for (int sign = 0; sign < 256; sign++) {
            boolean fits = sign == 10 || sign >= 32 && sign <= 126;
            HeadRows head = new HeadRows();
            Check.due("sign " + sign + " first", head.feed((long) sign << 56, 0, 0), fits ? 1 : 0);
            Check.due("sign " + sign + " last", head.feed(0, 0, sign), fits ? 2 : 0);
            Check.due("count 11", head.count(11), fits ? 2 : 0);
        }
    }

    private static void taken() {
        Check.edge("what reads it takes it: it is empty then");
        HeadRows head = new HeadRows();
        Check.due("fault", Check.draw(head, "row 0 0 up 1 ; x"), 1 + 16 * 15);
        Check.due("behind a fault", head.count(11), 0);
        Check.due("draw of nothing", head.draw(), 0);
        Check.cannot(head, "row 0 0 up 1 ;", 5, 0);
        Check.due("behind what can't be", head.count(11), 0);
        Check.due("draw of nothing", head.draw(), 0);
        Check.drawn(head, "row 0 0 right 1 ;");
        Check.due("behind a program", head.count(11), 0);
        Check.due("draw of nothing", head.draw(), 0);
        // Brackets that a fault left open are not open for what is read next.
        Check.due("a fault within brackets", Check.draw(head, "again 2 up 1 ( mirror ( row 5 5 x"), 1 + 16 * 32);
        Check.drawn(head, "again 2 up 1 ( mirror ( again 1 up 1 ( mirror ( ) ; ) ; ) ; ) ;");
        Check.due("a bracket too many", Check.draw(head, ") ;"), 1);
        Check.due("fed anew", Check.feed(head, "row"), 3);
        Check.due("takeBack does not read", head.takeBack(), 1);
        Check.due("signs", head.count(11), 3);
    }

    private static void asLongAsCanBe() {
        Check.edge("TOKENS, each as long as can be");
        Check.fault("row 3 3 upup 1 ;", 1, 8);
        Check.fault("row 3 3 up 1 upup1 ;", 1, 13);
        Check.fault("partrow 3 3 up 1 ;", 1, 0);
        Check.fault("row 33 up 1 ;", 4, 4);
        HeadRows head = new HeadRows();
        Check.drawn(head, "row 11 10 up 10 ;");
        Check.due("column 11, line 10", head.row(0, 0), 171);
        Check.due("10 up", head.row(0, 10), 11);
    }

    private static void blanks() {
        Check.edge("blanks (10, 32) between where one likes");
        String[] some = {"", " ", "\n", "  ", "\n\n", " \n ", "\n \n"};
        for (String b : some) {
            String apart = b.isEmpty() ? " " : b;
            String row = b + "row" + b + "3" + apart + "3" + b + "up" + b + "1" + b + ";" + b;
            HeadRows head = new HeadRows();
            Check.drawn(head, row);
            Check.row(head, 0, 51, 35);
            Check.drawn(head, b + "mirror" + b + "(" + b + ")" + b + ";" + b);
            String again = "again" + b + "2" + b + "up" + b + "1" + b + "(" + b + "part9" + apart + "9" + b + "left2" + b + ";";
            Check.drawn(head, again + b + ")" + b + ";" + b);
            Check.due("partings", head.count(0), 2);
        }
        Check.fault("ro w 3 3 up 1 ;", 1, 0);
        Check.fault("row 3 3 u\np 1 ;", 1, 8);
        Check.fault("row 1 5 3 up 1 ;", 1, 8);
        // Signs that are left out are no blanks.
        Check.drawn(new HeadRows(), "ro\tw 3 3 u\rp 1 ;");
        Check.fault("row 3\t3 up 1 ;", 4, 4);
    }

    private static void words() {
        Check.edge("WORDS (letters a .. z, 8 at most)");
        for (char sign = 33; sign <= 126; sign++) {
            HeadRows head = new HeadRows();
            boolean isLetter = sign >= 'a' && sign <= 'z';
            boolean isDigit = sign >= '0' && sign <= '9';
            // A letter makes the word another one; a digit is the number, and the next one is too many.
            int place = isLetter ? 8 : isDigit ? 12 : 10;
            Check.due("up and sign " + (int) sign, Check.draw(head, "row 3 3 up" + sign + " 1 ;"), 1 + 16 * place);
            Check.due("sign " + (int) sign + " and up", Check.draw(head, "row 3 3 " + sign + "up 1 ;"), 1 + 16 * 8);
        }
    }

    private static void longWords() {
        Check.edge("All else (a longer WORD [..] at its first sign) is none");
        for (int letters = 1; letters <= 20; letters++) {
            String word = "mirrorpartrowagainup".substring(0, letters);
            if (letters == 6) {
                Check.fault(word, 1, 6);
            } else {
                Check.fault(word, 1, 0);
                Check.fault("  " + word + " ( ) ;", 1, 2);
            }
        }
        Check.fault("row 3 3 rightrigh 1 ;", 1, 8);
        Check.fault("row 3 3 up 1 rightright1 ;", 1, 13);
        Check.fault("aaaaaaaaright 1 ;", 1, 0);
    }

    private static void numbers() {
        Check.edge("NUMBERS (1 or 2 digits");
        String[] threes = {"3", "03"};
        for (String three : threes) {
            HeadRows head = new HeadRows();
            Check.drawn(head, "row " + three + " " + three + " up " + three + " ;");
            Check.row(head, 0, 51, 35, 19, 3);
        }
        Check.fault("row 003 3 up 3 ;", 1, 4);
        Check.fault("row 3 003 up 3 ;", 1, 6);
        Check.fault("row 3 3 up 003 ;", 1, 11);
        Check.fault("part 000 3 up 3 ;", 1, 5);
        Check.fault("again 002 up 1 ( ) ;", 1, 6);
        Check.fault("again 2 up 001 ( ) ;", 1, 11);
        Check.fault("row 3 3 up 4294967297 ;", 1, 11);
        Check.fault("row 3 3 up 18446744073709551617 ;", 1, 11);
    }

    private static void letterBehindNumber() {
        Check.edge("a letter may stand right behind");
        HeadRows head = new HeadRows();
        Check.drawn(head, "row 3 3up 1down 0left1;");
        Check.row(head, 0, 51, 35, 34);
        Check.drawn(head, "part 12 12up10;");
        Check.drawn(head, "again 1up0(part 13 12up10;);");
        Check.due("partings", head.count(0), 2);
        Check.fault("row 3 3x", 1, 7);
        Check.fault("row 3 333up 1 ;", 1, 6);
    }

    private static void otherSigns() {
        Check.edge("All else [..] is none.");
        String[] tokens = {"row", " 3", " 3", " up", " 1", " ;", " mirror", " (", " )", " ;"};
        for (char sign = 33; sign <= 126; sign++) {
            boolean isToken = sign == '(' || sign == ')' || sign == ';';
            boolean isLetter = sign >= 'a' && sign <= 'z';
            boolean isDigit = sign >= '0' && sign <= '9';
            if (!isToken && !isLetter && !isDigit) {
                String ahead = "";
                for (String token : tokens) {
                    int place = ahead.length();
                    Check.due("sign " + (int) sign + " at " + place,
                        Check.draw(new HeadRows(), ahead + sign + " 5 part ( ;"), 1 + 16 * place);
                    ahead += token;
                }
                Check.due("sign " + (int) sign + " at the end",
                    Check.draw(new HeadRows(), ahead + sign), 1 + 16 * ahead.length());
            }
        }
    }

    private static void longerAtItsFirstSign() {
        Check.edge("(a longer WORD or NUMBER, too, at its first sign)");
        Check.fault("row 3 123 up 1 ;", 1, 6);
        Check.fault("row 3 3 up 100 ;", 1, 11);
        Check.fault("row 3 3 up 1234567 ;", 1, 11);
        Check.fault("row 3 3 downwards 1 ;", 1, 8);
        Check.fault("\n\n mirrormirror ( ) ;", 1, 3);
    }

    private static void anyNumberOfSteps() {
        Check.edge("PROGRAM: any number of STEPS.");
        HeadRows none = new HeadRows();
        Check.drawn(none, "");
        Check.drawn(none, " ");
        Check.due("programs that drew nothing", none.count(8), 0);
        for (int steps = 1; steps <= 60; steps++) {
            StringBuilder text = new StringBuilder();
            for (int n = 0; n < steps; n++) {
                text.append("part").append(n % 12).append(' ').append(n / 12).append("down1;");
            }
            HeadRows head = new HeadRows();
            Check.drawn(head, text.toString());
            Check.due("partings", head.count(0), steps);
            Check.due("programs", head.count(8), 1);
        }
    }

    private static void anyMoreWays() {
        Check.edge("row N N WAY { WAY } ;");
        Check.fault("row 3 3 ;", 1, 8);
        Check.fault("part 3 3 ;", 1, 9);
        Check.fault("row 3 3", 1, 7);
        // Each of the 191 ways goes on by one cell.
        StringBuilder text = new StringBuilder("row 0 0");
        for (int n = 1; n < 192; n++) {
            text.append(n % 12 == 0 ? "right1" : n / 12 % 2 == 0 ? "down1" : "up1");
        }
        HeadRows head = new HeadRows();
        Check.drawn(head, text + ";");
        Check.due("its last cell", head.row(0, 191), 15);
        Check.due("it has no more", head.row(0, 192), HeadRows.NONE);
        Check.due("taken", head.taken(15, 0), 191);
        Check.due("work of 192 cells", head.work(0), 384 + 192);
        // As many ways as the tape holds.
        HeadRows still = new HeadRows();
        Check.cannot(still, "row 0 0" + "up0".repeat(330) + ";", 8, 0);
        Check.cannot(still, "part 0 0" + "up0".repeat(330) + ";", 2, 0);
    }

    private static void stepsInBrackets() {
        Check.edge("again N WAY ( { STEP } ) ;");
        HeadRows head = new HeadRows();
        Check.drawn(head, "again 2 up 1 ( ) ;");
        Check.drawn(head, "mirror ( ) ;");
        Check.drawn(head, "again 9 up 1 ( mirror ( again 9 left 1 ( ) ; ) ; mirror ( ) ; ) ;");
        Check.due("programs", head.count(8), 0);
        Check.drawn(head, "again 1 up 1 ( row 3 3 up 1 ; ) ;");
        Check.drawn(head, "again 1 up 1 ( row 3 5 up 1 ; row 3 7 up 1 ; part 0 0 up 0 right 1 ; ) ;");
        Check.due("drawn", head.count(0) + head.count(1), 4);
        // Brackets without a step stand between others and change nothing.
        HeadRows between = new HeadRows();
        Check.drawn(between, "mirror ( ) ; row 3 3 up 1 ; again 2 up 1 ( ) ; row 5 3 up 1 ; mirror ( mirror ( ) ; ) ;");
        Check.row(between, 0, 51, 35);
        Check.row(between, 1, 53, 37);
        Check.drawn(between, "again 2 right 2 ( mirror ( ) ; row 0 8 down 1 ; again 3 up 1 ( ) ; part 0 7 right 1 ; ) ; row 9 9 up 1 ;");
        Check.row(between, 2, 128, 144);
        Check.row(between, 3, 130, 146);
        Check.row(between, 4, 153, 137);
        Check.due("partings", between.count(0), 2);
        Check.fault("again 2 ( ) ;", 1, 8);
        Check.fault("again 2 up 1 up 1 ( ) ;", 1, 13);
        Check.fault("again 2 up 1 ) ;", 1, 13);
        Check.fault("again 2 up 1 ( ( ) ) ;", 1, 15);
        Check.fault("again 2 up 1 ( ) )", 1, 17);
        Check.fault("again 2 up 1 ( ; ) ;", 1, 15);
        Check.fault("mirror 1 ( ) ;", 1, 7);
        Check.fault("mirror ( ) ; ;", 1, 13);
        Check.fault(") ;", 1, 0);
        Check.fault("row 3 3 up 1 ; ) ;", 1, 15);
    }

    // A number that fits may still be told of as what can't be drawn, but not as a fault.
    private static void range(String ahead, String behind, int least, int most) {
        for (int n = 0; n <= 99; n++) {
            String[] forms = n < 10 ? new String[] {"" + n, "0" + n} : new String[] {"" + n};
            for (String form : forms) {
                String text = ahead + form + behind;
                int told = Check.draw(new HeadRows(), text);
                boolean fits = n >= least && n <= most;
                Check.due("fault of " + text, Math.max(0, told), fits ? 0 : 4 + 16 * ahead.length());
            }
        }
    }

    private static void partRange() {
        Check.edge("N of part: a CORNER, across 0 to 16, down 0 to 12");
        range("part ", " 5 up 1 ;", 0, 16);
        range("part 5 ", " right 1 ;", 0, 12);
    }

    private static void rowRange() {
        Check.edge("of row: a CELL's column 0 to 15, line 0 to 11");
        range("row ", " 5 up 1 ;", 0, 15);
        range("row 5 ", " right 1 ;", 0, 11);
    }

    private static void againRange() {
        Check.edge("of again 1 to 9");
        range("again ", " up 1 ( ) ;", 1, 9);
        range("again ", " down 1 ( row 3 3 right 1 ; ) ;", 1, 9);
    }

    private static void wayRange() {
        Check.edge("of a WAY 0 to 16");
        for (String way : WAYS) {
            range("part 8 6 " + way + " ", " ;", 0, 16);
            range("row 8 6 " + way + " ", " ;", 0, 16);
            range("row 8 6 right 1 " + way + " ", " ;", 0, 16);
            range("again 2 " + way + " ", " ( ) ;", 0, 16);
        }
        // 16 goes from one end of the net to the other.
        HeadRows head = new HeadRows();
        Check.drawn(head, "part 0 5 right 16 ;");
        Check.drawn(head, "part 16 6 left 16 ;");
        Check.due("regions", head.count(2), 3);
        Check.cannot(head, "part 1 8 right 16 ;", 1, 0);
        Check.cannot(head, "row 0 8 right 16 ;", 5, 0);
    }

    private static void nested() {
        Check.edge("4 of again and mirror within one another.");
        String[] opens = {"again 1 up 0 ( ", "mirror ( "};
        for (int code = 0; code < 16; code++) {
            StringBuilder open = new StringBuilder();
            for (int n = 0; n < 4; n++) {
                open.append(opens[code >> n & 1]);
            }
            Check.drawn(new HeadRows(), open + ") ; ) ; ) ; ) ;");
            // Beside one another there may be more of them.
            Check.drawn(new HeadRows(), open + ") ; mirror ( ) ; again 2 up 1 ( ) ; ) ; mirror ( ) ; ) ; ) ; again 2 up 1 ( ) ;");
            for (String fifth : opens) {
                Check.fault(open + fifth + ") ; ) ; ) ; ) ; ) ;", 5, open.length());
                Check.fault(open + ") ; ) ; mirror ( again 2 up 1 ( " + fifth + ") ; ) ; ) ; ) ; ) ;", 5, open.length() + 32);
            }
        }
        HeadRows head = new HeadRows();
        Check.drawn(head, "again 2 down 1 ( mirror ( again 2 right 2 ( again 2 down 2 ( row 0 0 right 1 ; ) ; ) ; ) ; ) ;");
        Check.due("rows of four within one another", head.count(1), 16);
    }

    private static void textLength() {
        Check.edge("the end being one at the text's length");
        String[] tokens = {"again", "2", "up", "1", "(", "row", "3", "3", "down", "1", ";", "mirror", "(", "part", "1",
            "1", "up", "1", ";", ")", ";", ")", ";"};
        StringBuilder text = new StringBuilder();
        for (int n = 0; n < tokens.length - 1; n++) {
            text.append(tokens[n]);
            Check.fault(text.toString(), 1, text.length());
            text.append(' ');
            Check.fault(text.toString(), 1, text.length());
            Check.fault(text + "\n \n", 1, text.length() + 3);
        }
        HeadRows head = new HeadRows();
        Check.feed(head, "row 3 3");
        Check.due("signs of two feeds", Check.feed(head, " up  "), 12);
        Check.due("the end behind both", head.draw(), 1 + 16 * 12);
    }

    private static void firstToken() {
        Check.edge("of the first token from the left that is wrong");
        Check.fault("row 16 12 up 17 ;", 4, 4);
        Check.fault("row 15 12 up 17 ;", 4, 7);
        Check.fault("row 15 11 up 17 ;", 4, 13);
        Check.fault("row 15 11 up 16 x", 1, 16);
        Check.fault("row 99 x", 4, 4);
        Check.fault("row x 99", 1, 4);
        Check.fault("x row 3 3 up 99 ;", 1, 0);
        Check.fault("row 3 3 up 1 ; part 17 0 up 1 ; row 16", 4, 20);
        Check.fault("mirror ( mirror ( mirror ( mirror ( row 16 0 up 1 ; mirror ( ) ; ) ; ) ; ) ; ) ;", 4, 40);
        // A fault goes ahead of what can't be drawn.
        Check.fault("row 0 0 up 1 ; row 0 0 up 1 ; x", 1, 30);
    }

    private static void leastKind() {
        Check.edge("the least: 1 it is none, or can't stand there");
        Check.fault("row 3 3 99 ;", 1, 8);
        Check.fault("99", 1, 0);
        Check.fault("again 2 up 1 99 ( ) ;", 1, 13);
        Check.fault("row 300 3 up 1 ;", 1, 4);
        String four = "mirror ( mirror ( mirror ( mirror ( ";
        Check.fault(four + "row again", 1, 40);
        Check.fault(four + "row 3 3 mirror", 1, 44);
        Check.fault(four + "row 3 3 up 1 again", 1, 49);
        Check.fault(four + ") mirror", 1, 38);
        Check.fault(four + "mirrors ( ) ;", 1, 36);
        Check.fault("mirror ( mirror ( mirror ( mirror mirror", 1, 34);
        Check.fault("mirror ( mirror ( mirror ( again 1 up mirror", 1, 38);
    }

    /** One token of each kind where it can't stand, behind the beginning of a program. */
    private static void onlyThese(String ahead, String fine) {
        String[] all = {"part", "row", "again", "mirror", "up", "down", "left", "right", "1", "(", ")", ";", "word", "123"};
        List<String> wrong = new ArrayList<>(List.of(all));
        for (String token : fine.split(" ")) {
            wrong.remove(token);
        }
        for (String token : wrong) {
            Check.fault(ahead + token, 1, ahead.length());
        }
        for (String token : fine.split(" ")) {
            int told = Check.draw(new HeadRows(), ahead + token);
            Check.due("a token that may stand behind " + ahead + token, told == 1 + 16 * ahead.length(), false);
        }
    }

    private static void kindOne() {
        Check.edge("1 it is none, or can't stand there");
        onlyThese("", "part row again mirror");
        onlyThese("row 3 3 up 1 ; ", "part row again mirror");
        onlyThese("mirror ( ", "part row again mirror )");
        onlyThese("mirror ( row 3 3 up 1 ; ", "part row again mirror )");
        onlyThese("row ", "1");
        onlyThese("row 3 ", "1");
        onlyThese("row 3 3 ", "up down left right");
        onlyThese("row 3 3 up ", "1");
        onlyThese("row 3 3 up 1 ", "up down left right ;");
        onlyThese("part ", "1");
        onlyThese("part 3 ", "1");
        onlyThese("part 3 3 ", "up down left right");
        onlyThese("part 3 3 up ", "1");
        onlyThese("part 3 3 up 1 ", "up down left right ;");
        onlyThese("again ", "1");
        onlyThese("again 2 ", "up down left right");
        onlyThese("again 2 up ", "1");
        onlyThese("again 2 up 1 ", "(");
        onlyThese("mirror ", "(");
        onlyThese("mirror ( ) ", ";");
        onlyThese("again 2 up 1 ( ) ", ";");
    }

    private static void kindFour() {
        Check.edge("4 a NUMBER that is not as told");
        Check.fault("part 17", 4, 5);
        Check.fault("part 16 13", 4, 8);
        Check.fault("row 16", 4, 4);
        Check.fault("row 15 12", 4, 7);
        Check.fault("row 15 11 up 17", 4, 13);
        Check.fault("row 15 11 up 16 left 17", 4, 21);
        Check.fault("again 0", 4, 6);
        Check.fault("again 00", 4, 6);
        Check.fault("again 10", 4, 6);
        Check.fault("again 9 up 17", 4, 11);
    }

    private static void kindFive() {
        Check.edge("5 the word again or mirror within 4 others");
        String four = "again 1 up 0 ( mirror ( again 1 up 0 ( mirror ( ";
        Check.fault(four + "again", 5, four.length());
        Check.fault(four + "mirror", 5, four.length());
        Check.fault(four + "mirror 99 x", 5, four.length());
        Check.fault(four + "row 3 3 up 1 ; \n again", 5, four.length() + 17);
        Check.fault(four + "row 3 3 up 1 ; ) ; mirror ( ) ; ) ; again 2", 1, four.length() + 43);
        Check.fault(four + "row 3 3 up 1 ; ) ; mirror ( mirror", 5, four.length() + 28);
    }

    private static void bytes() {
        Check.edge("Up to 24 signs come behind the TAPE: the bytes of a, b, c, of each the highest first");
        String program = "row 3 3 right 2 down 1 ;";
        HeadRows head = new HeadRows();
        Check.due("24 signs", head.feed(0x726F772033203320L, 0x7269676874203220L, 0x646F776E2031203BL), 24);
        Check.due("draw", head.draw(), 0);
        Check.row(head, 0, 51, 52, 53, 69);
        for (int n = 0; n < 24; n++) {
            // All but one sign in one feed, that one where it belongs in a feed between.
            HeadRows parts = new HeadRows();
            Check.feed(parts, program.substring(0, n));
            long one = (long) program.charAt(n) << 56 - 8 * (n % 8);
            Check.due("one sign", parts.feed(n < 8 ? one : 0, n / 8 == 1 ? one : 0, n >= 16 ? one : 0), n + 1);
            Check.feed(parts, program.substring(n + 1));
            Check.due("24 signs", parts.count(11), 24);
            Check.due("draw", parts.draw(), 0);
            Check.row(parts, 0, 51, 52, 53, 69);
        }
    }

    private static void leftOut() {
        Check.edge("others than 10 and 32 .. 126, and what is beyond 1,000, are left out: how many there are.");
        HeadRows head = new HeadRows();
        Check.due("none fits", head.feed(0x00090B0C0D1F7F80L, 0x81909FA0FEFF0102L, -1L), 0);
        Check.due("some fit", head.feed(0x720E6F8077FF2000L, Long.MIN_VALUE, 0x330A330A75707F31L), 11);
        Check.due("the rest", head.feed(0x3B, 0, 0), 12);
        Check.due("draw", head.draw(), 0);
        Check.row(head, 0, 51, 35);
        Check.due("none again", head.feed(0, 0, 0), 0);
        for (int n = 1; n <= 42; n++) {
            long eight = 0x2020202020202020L;
            Check.due("24 more", head.feed(eight, eight, eight), Math.min(1000, 24 * n));
        }
        Check.due("full", head.feed(0x7878787878787878L, -1, 0), 1000);
        Check.due("nothing but blanks", head.draw(), 0);
    }

    private static void empty() {
        Check.edge("0 if all of it is drawn; its FAULT; or -1 less what is told of the one that can't be.");
        HeadRows head = new HeadRows();
        Check.due("an empty tape", head.draw(), 0);
        Check.due("programs", head.count(8), 0);
        Check.due("the least fault", Check.draw(head, "x"), 1);
        Check.due("drawn", Check.draw(head, "row 0 0 right 1 ;"), 0);
        Check.due("the least reason", Check.draw(head, "part 0 0 up 1 ;"), -2);
        Check.due("a reason behind one", Check.draw(head, "part 0 0 down 1 ; part 0 0 up 1 ;"), -18);
    }
}
