/** The boundary cases that stand in the promises themselves, a method for each sentence. */
public final class EdgesOfPromisesTest {
    private static final int OUTSIDE = ZScreens.OUTSIDE, STATE = ZScreens.STATE;

    public static void main(String[] args) {
        versionIsTheNearest();
        splitIsOfZeroTo255();
        chooseAnswersWhichOneWas();
        cursorIsAtAPlace();
        cursorWhileTheLowerIsChosen();
        cursorBeyondInVersion4();
        cursorBeyondInVersion5();
        cursorOfTheVersionFirstOfAll();
        signsThatAre();
        signAnswersNewLines();
        eraseOfMinus2To1();
        eraseLineOfTheUpper();
        eraseLineOfTheLower();
        styleIsOf0To15();
        coloursAreOf0To9();
        fontZero();
        bufferAnswers();
        namesAreOf32To126();
        nameOf60();
        statusBounds();
        statusVersions();
        readAnswersCount();
        transcriptAnswers();
        writtenOfNone();
        writtenCounts();
        cellBounds();
        toldBounds();
        Checks.finish();
    }

    private static void versionIsTheNearest() {
        Checks.about("A SCREEN of a VERSION (1 to 8) ..: each the nearest that may be");
        int[] low = {Integer.MIN_VALUE, -1, 0, 1};
        for (int version : low) {
            ZScreens x = new ZScreens(version, 8, 4);
            Checks.due("a line for the status", x.told(4), 3);
            Checks.due("split", x.split(1), STATE);
            Checks.due("SCORE", x.status(0, 1, 2), 5);
            Checks.due("TIME", x.status(1, 1, 2), STATE);
        }
        int[] high = {8, 9, 255, Integer.MAX_VALUE};
        for (int version : high) {
            ZScreens x = new ZScreens(version, 8, 4);
            Checks.due("the first line", x.told(4), 1);
            Checks.due("split", x.split(1), 1);
            Checks.due("colour", x.colour(3, 4), 29);
            Checks.due("SCORE", x.status(0, 1, 2), STATE);
        }
    }

    private static void splitIsOfZeroTo255() {
        Checks.about("TO SPLIT by n (0 to 255): HEIGHT then");
        int[][] rows = {{Integer.MIN_VALUE, OUTSIDE}, {-1, OUTSIDE}, {0, 0}, {1, 1}, {39, 39}, {40, 39}, {254, 39},
            {255, 39}, {256, OUTSIDE}, {Integer.MAX_VALUE, OUTSIDE}};
        for (int[] row : rows) {
            ZScreens x = new ZScreens(6, 8, 40);
            Checks.due("split(" + row[0] + ")", x.split(row[0]), row[1]);
            Checks.due("told(2)", x.told(2), Math.max(0, row[1]));
        }
    }

    private static void chooseAnswersWhichOneWas() {
        Checks.about("The LOWER (0) or UPPER (1) pane is CHOSEN: which one was");
        ZScreens x = new ZScreens(3, 8, 4);
        x.split(1);
        int[][] rows = {{0, 0}, {1, 0}, {1, 1}, {0, 1}, {0, 0}, {1, 0}};
        for (int[] row : rows) {
            Checks.due("choose(" + row[0] + ")", x.choose(row[0]), row[1]);
            Checks.due("told(3)", x.told(3), row[0]);
        }
        int[] wrong = {Integer.MIN_VALUE, -3, -2, -1, 2, 3, Integer.MAX_VALUE};
        for (int pane : wrong) {
            Checks.due("choose(" + pane + ")", x.choose(pane), OUTSIDE);
            Checks.due("told(3) stays", x.told(3), 1);
        }
    }

    private static void cursorIsAtAPlace() {
        Checks.about("The UPPER CURSOR is at a line and column (VERSION 4 +): 1");
        int[][] places = {{1, 1}, {1, 8}, {3, 1}, {3, 8}, {2, 5}};
        for (int version = 4; version <= 8; version++) {
            ZScreens x = new ZScreens(version, 8, 5);
            x.split(3);
            x.choose(1);
            for (int[] place : places) {
                Checks.due("cursor", x.cursor(place[0], place[1]), 1);
                Checks.due("line", x.told(6), place[0]);
                Checks.due("column", x.told(7), place[1]);
                x.sign('*');
                Checks.due("a sign comes there", x.cell(place[0], place[1], 0), '*');
            }
        }
    }

    private static void cursorWhileTheLowerIsChosen() {
        Checks.about("0, and nothing is done, as long as the LOWER pane is CHOSEN");
        int[][] places = {{2, 2}, {1, 1}, {0, 0}, {4, 9}, {Integer.MIN_VALUE, Integer.MAX_VALUE}};
        for (int version = 4; version <= 8; version++) {
            ZScreens x = new ZScreens(version, 8, 5);
            Checks.tell(x, "ab");
            for (int height = 0; height <= 3; height += 3) {
                String before = Checks.all(x);
                for (int[] place : places) {
                    Checks.due("cursor", x.cursor(place[0], place[1]), 0);
                    Checks.due("all", Checks.all(x), before);
                }
                x.split(3);
            }
        }
    }

    private static void cursorBeyondInVersion4() {
        Checks.about("Beyond the pane it is at the nearest place in VERSION 4");
        int[][] rows = {{0, 1, 1, 1}, {-1, 4, 1, 4}, {4, 4, 3, 4}, {3, 9, 3, 8}, {2, 0, 2, 1}, {2, -1, 2, 1},
            {0, 0, 1, 1}, {4, 9, 3, 8}, {0, 9, 1, 8}, {4, 0, 3, 1}, {Integer.MIN_VALUE, Integer.MAX_VALUE, 1, 8},
            {Integer.MAX_VALUE, Integer.MIN_VALUE, 3, 1}};
        ZScreens x = new ZScreens(4, 8, 5);
        x.split(3);
        x.choose(1);
        for (int[] row : rows) {
            Checks.due("cursor(" + row[0] + ", " + row[1] + ")", x.cursor(row[0], row[1]), 1);
            Checks.due("line", x.told(6), row[2]);
            Checks.due("column", x.told(7), row[3]);
        }
    }

    private static void cursorBeyondInVersion5() {
        Checks.about("in VERSION 5 + OUTSIDE (when the UPPER one is CHOSEN)");
        int[][] rows = {{0, 1}, {4, 1}, {1, 0}, {1, 9}, {-1, -1}, {Integer.MIN_VALUE, 1}, {Integer.MAX_VALUE, 1},
            {1, Integer.MIN_VALUE}, {1, Integer.MAX_VALUE}};
        for (int version = 5; version <= 8; version++) {
            ZScreens x = new ZScreens(version, 8, 5);
            x.split(3);
            x.choose(1);
            x.cursor(2, 5);
            for (int[] row : rows) {
                Checks.due("cursor(" + row[0] + ", " + row[1] + ")", x.cursor(row[0], row[1]), OUTSIDE);
                Checks.due("line stays", x.told(6), 2);
                Checks.due("column stays", x.told(7), 5);
            }
            x.split(2);
            Checks.due("a line that the pane has no more", x.cursor(3, 1), OUTSIDE);
            x.size(10, 5);
            Checks.due("a column that it has now", x.cursor(2, 10), 1);
        }
    }

    private static void cursorOfTheVersionFirstOfAll() {
        Checks.about("STATE: the VERSION (first of all)");
        for (int version = 1; version <= 3; version++) {
            ZScreens x = new ZScreens(version, 8, 5);
            Checks.due("while the LOWER pane is CHOSEN", x.cursor(1, 1), STATE);
            Checks.due("beyond, while it is", x.cursor(0, 99), STATE);
            x.split(2);
            x.choose(1);
            Checks.due("a place of the pane", x.cursor(2, 2), STATE);
            Checks.due("beyond it", x.cursor(Integer.MAX_VALUE, Integer.MIN_VALUE), STATE);
            Checks.due("line", x.told(6), 1);
            Checks.due("column", x.told(7), 1);
        }
    }

    private static void signsThatAre() {
        Checks.about("A SIGN (13, 32 to 126)");
        for (int version = 1; version <= 8; version++) {
            for (int c = -3; c <= 260; c++) {
                ZScreens x = new ZScreens(version, 8, 5);
                int want = c == 13 ? 1 : c >= 32 && c <= 126 ? 0 : OUTSIDE;
                Checks.due("sign(" + c + ")", x.sign(c), want);
                Checks.due("it waits", x.told(11), c >= 33 && c <= 126 ? 1 : 0);
            }
        }
        ZScreens y = new ZScreens(5, 8, 5);
        Checks.due("the least", y.sign(Integer.MIN_VALUE), OUTSIDE);
        Checks.due("the largest", y.sign(Integer.MAX_VALUE), OUTSIDE);
        y.split(1);
        y.choose(1);
        Checks.due("in the UPPER pane, too", y.sign(127), OUTSIDE);
        Checks.due("its cursor stays", y.told(7), 1);
    }

    private static void signAnswersNewLines() {
        Checks.about("how many NEW LINES there were in all");
        ZScreens x = new ZScreens(5, 8, 3);
        x.split(1);
        for (int i = 1; i <= 100; i++) {
            Checks.due("NEW LINE " + i, x.sign(13), i);
        }
        x.choose(1);
        Checks.due("the UPPER pane answers them, too", x.sign('a'), 100);
        Checks.due("its 13 is none", x.sign(13), 100);
        x.erase(-1);
        x.size(9, 4);
        x.read();
        Checks.due("they are never less", x.sign(' '), 100);
    }

    private static void eraseOfMinus2To1() {
        Checks.about("TO ERASE a pane (0, 1), both (-2), all (-1): 1");
        for (int version = 1; version <= 8; version++) {
            ZScreens x = new ZScreens(version, 8, 3);
            for (int pane = -2; pane <= 1; pane++) {
                Checks.due("erase(" + pane + ")", x.erase(pane), version < 4 ? STATE : 1);
            }
            int[] wrong = {Integer.MIN_VALUE, -4, -3, 2, 3, Integer.MAX_VALUE};
            for (int pane : wrong) {
                Checks.due("erase(" + pane + ")", x.erase(pane), OUTSIDE);
            }
        }
    }

    private static void eraseLineOfTheUpper() {
        Checks.about("From the CURSOR of the CHOSEN pane on its line is BLANK: how many CELLS (UPPER)");
        for (int version = 4; version <= 8; version++) {
            for (int column = 1; column <= 9; column++) {
                ZScreens x = new ZScreens(version, 8, 5);
                x.style(1);
                x.split(3);
                x.choose(1);
                Checks.tell(x, "12345678\n12345678\n12345678");
                x.cursor(2, Math.min(column, 8));
                if (column == 9) {
                    x.sign('8');
                }
                Checks.due("eraseLine in column " + column, x.eraseLine(), 9 - column);
                String left = "12345678".substring(0, column - 1);
                Checks.due("signs", Checks.signs(x), "12345678|" + left + "|12345678||");
                Checks.due("styles", Checks.part(x, 2, 1), "1".repeat(column - 1) + "0".repeat(9 - column));
                Checks.due("the cursor's line stays", x.told(6), 2);
                Checks.due("its column stays", x.told(7), column);
            }
        }
    }

    private static void eraseLineOfTheLower() {
        Checks.about("From the CURSOR of the CHOSEN pane on its line is BLANK: how many CELLS (LOWER)");
        for (int version = 4; version <= 8; version++) {
            ZScreens x = new ZScreens(version, 8, 5);
            x.split(1);
            x.buffer(false);
            Checks.tell(x, "abc");
            int line = x.told(4);
            x.colour(3, 4);
            Checks.due("behind three signs", x.eraseLine(), 5);
            Checks.due("first colours", Checks.part(x, 1 + line, 3), version == 4 ? "22222222" : "22233333");
            Checks.due("second colours", Checks.part(x, 1 + line, 4), version == 4 ? "99999999" : "99944444");
            Checks.due("signs", Checks.line(x, 1 + line), "abc");
            Checks.tell(x, "defgh");
            Checks.due("behind the last column", x.eraseLine(), 0);
            Checks.due("signs stay", Checks.line(x, 1 + line), "abcdefgh");
            Checks.cursors("cursors stay", x, line, 9, 1, 1);
            Checks.tell(x, "\n");
            Checks.due("a whole line", x.eraseLine(), 8);
        }
    }

    private static void styleIsOf0To15() {
        Checks.about("A STYLE (0 to 15): what it is then");
        for (int version = 1; version <= 8; version++) {
            for (int s = -1; s <= 17; s++) {
                ZScreens x = new ZScreens(version, 8, 3);
                int want = s < 0 || s > 15 ? OUTSIDE : version < 4 ? STATE : s;
                Checks.due("style(" + s + ")", x.style(s), want);
                Checks.due("told(12)", x.told(12), Math.max(0, want));
            }
        }
    }

    private static void coloursAreOf0To9() {
        Checks.about("COLOURS (0 to 9) from now on: 10 times the first and the second one as they were");
        for (int version = 1; version <= 8; version++) {
            for (int a = -1; a <= 10; a++) {
                for (int b = -1; b <= 10; b++) {
                    ZScreens x = new ZScreens(version, 8, 3);
                    boolean outside = a < 0 || a > 9 || b < 0 || b > 9;
                    int want = outside ? OUTSIDE : version < 5 ? STATE : 29;
                    Checks.due("colour(" + a + ", " + b + ")", x.colour(a, b), want);
                    Checks.due("told(14)", x.told(14), want < 0 || a < 2 ? 2 : a);
                    Checks.due("told(15)", x.told(15), want < 0 || b < 2 ? 9 : b);
                }
            }
        }
    }

    private static void fontZero() {
        Checks.about("0 told: the FONT that is");
        for (int version = 1; version <= 8; version++) {
            ZScreens x = new ZScreens(version, 8, 3);
            Checks.due("font(0)", x.font(0), version < 5 ? STATE : 1);
            x.font(3);
            Checks.due("font(0) again", x.font(0), version < 5 ? STATE : 3);
        }
    }

    private static void bufferAnswers() {
        Checks.about("BUFFER is on or off: whether it was (1, 0)");
        for (int version = 1; version <= 8; version++) {
            ZScreens x = new ZScreens(version, 8, 3);
            boolean[] told = {true, false, false, true, true, false};
            int[] want = {1, 1, 0, 0, 1, 1};
            for (int i = 0; i < told.length; i++) {
                Checks.due("buffer(" + told[i] + ")", x.buffer(told[i]), want[i]);
            }
        }
    }

    private static void namesAreOf32To126() {
        Checks.about("A byte (32 to 126) comes behind the NAME");
        for (int version = 1; version <= 8; version++) {
            int length = 0;
            int[] told = {31, 32, 126, 127, 13, -1, 65, Integer.MIN_VALUE, Integer.MAX_VALUE};
            ZScreens x = new ZScreens(version, 8, 3);
            for (int c : told) {
                boolean outside = c < 32 || c > 126;
                length = outside ? length : length + 1;
                Checks.due("name(" + c + ")", x.name(c), outside ? OUTSIDE : length);
            }
        }
    }

    private static void nameOf60() {
        Checks.about("(60 at most; more do not): how many it has");
        ZScreens x = new ZScreens(3, 80, 3);
        for (int i = 1; i <= 63; i++) {
            Checks.due("the byte " + i, x.name(i <= 60 ? 32 + i : '!'), Math.min(i, 60));
        }
        x.status(0, 1, 2);
        Checks.due("the 60th", x.cell(1, 61, 0), 92);
        Checks.due("no 61st", x.cell(1, 62, 0), 32);
    }

    private static void statusBounds() {
        Checks.about("SCORE (kind 0; a, b -9999 to 9999) or TIME (1, in VERSION 3; a 0 to 23, b 0 to 59)");
        int[][] rows = {{0, -9999, -9999, 9}, {0, 9999, 9999, 11}, {0, -10000, 0, OUTSIDE}, {0, 10000, 0, OUTSIDE},
            {0, 0, -10000, OUTSIDE}, {0, 0, 10000, OUTSIDE}, {1, 0, 0, 13}, {1, 23, 59, 13}, {1, -1, 0, OUTSIDE},
            {1, 24, 0, OUTSIDE}, {1, 0, -1, OUTSIDE}, {1, 0, 60, OUTSIDE}, {-1, 0, 0, OUTSIDE}, {2, 0, 0, OUTSIDE},
            {0, Integer.MIN_VALUE, 0, OUTSIDE}, {0, 0, Integer.MAX_VALUE, OUTSIDE}, {Integer.MIN_VALUE, 0, 0, OUTSIDE},
            {Integer.MAX_VALUE, 0, 0, OUTSIDE}, {1, Integer.MIN_VALUE, 0, OUTSIDE}, {1, 0, Integer.MAX_VALUE, OUTSIDE}};
        for (int[] row : rows) {
            ZScreens x = new ZScreens(3, 20, 3);
            String call = "status(" + row[0] + ", " + row[1] + ", " + row[2] + ")";
            Checks.due(call, x.status(row[0], row[1], row[2]), row[3]);
            Checks.due("drawn by " + call, x.cell(1, 1, 1), row[3] == OUTSIDE ? 0 : 1);
        }
    }

    private static void statusVersions() {
        Checks.about("STATE: the VERSION");
        for (int version = 1; version <= 8; version++) {
            ZScreens x = new ZScreens(version, 20, 3);
            Checks.due("SCORE", x.status(0, 1, 2), version <= 3 ? 17 : STATE);
            ZScreens y = new ZScreens(version, 20, 3);
            Checks.due("TIME", y.status(1, 1, 2), version == 3 ? 14 : STATE);
            Checks.due("TIME is drawn", y.cell(1, 1, 1), version == 3 ? 1 : 0);
        }
    }

    private static void readAnswersCount() {
        Checks.about("Something is read: COUNT is 0: what it was");
        for (int version = 1; version <= 8; version++) {
            ZScreens x = new ZScreens(version, 8, 6);
            Checks.due("none", x.read(), 0);
            Checks.tell(x, "\n\n\n");
            Checks.due("three", x.read(), 3);
            Checks.due("told(9)", x.told(9), 0);
            Checks.due("none again", x.read(), 0);
            Checks.due("NEW LINES stay", x.told(8), 3);
            Checks.tell(x, "\n\n\n\n\n");
            Checks.due("MORE", x.told(10), 1);
            Checks.due("behind MORE", x.read(), version <= 3 ? 1 : 0);
            Checks.due("MORE stays", x.told(10), 1);
        }
    }

    private static void transcriptAnswers() {
        Checks.about("THE TRANSCRIPT is on or off: whether it was (1, 0)");
        for (int version = 1; version <= 8; version++) {
            ZScreens x = new ZScreens(version, 8, 3);
            boolean[] told = {false, true, true, false, false, true};
            int[] want = {0, 0, 1, 1, 0, 0};
            for (int i = 0; i < told.length; i++) {
                Checks.due("transcript(" + told[i] + ")", x.transcript(told[i]), want[i]);
            }
        }
    }

    private static void writtenOfNone() {
        Checks.about("SIGN i of THE TRANSCRIPT; how many it has (i is -1): an empty one");
        ZScreens x = new ZScreens(1, 8, 3);
        Checks.due("written(-1)", x.written(-1), 0);
        int[] wrong = {Integer.MIN_VALUE, -2, 0, 1, 499, 500, Integer.MAX_VALUE};
        for (int i : wrong) {
            Checks.due("written(" + i + ")", x.written(i), OUTSIDE);
        }
    }

    private static void writtenCounts() {
        Checks.about("SIGN i of THE TRANSCRIPT; how many it has (i is -1)");
        ZScreens x = new ZScreens(1, 8, 3);
        x.transcript(true);
        Checks.tell(x, "ab\n");
        int[][] rows = {{-2, OUTSIDE}, {-1, 3}, {0, 97}, {1, 98}, {2, 13}, {3, OUTSIDE}, {500, OUTSIDE}};
        for (int[] row : rows) {
            Checks.due("written(" + row[0] + ")", x.written(row[0]), row[1]);
        }
        x.transcript(false);
        Checks.due("off, it is still there", x.written(2), 13);
    }

    private static void cellBounds() {
        Checks.about("Of a CELL of THE SCREEN: 0 its SIGN, 1 STYLE, 2 FONT, 3, 4 COLOURS. OUTSIDE: line, column, what");
        for (int version = 1; version <= 8; version++) {
            ZScreens x = new ZScreens(version, 9, 4);
            int[] want = {32, 0, 1, 2, 9};
            for (int what = -1; what <= 5; what++) {
                int due = what < 0 || what > 4 ? OUTSIDE : want[what];
                Checks.due("cell(1, 1, " + what + ")", x.cell(1, 1, what), due);
                Checks.due("cell(4, 9, " + what + ")", x.cell(4, 9, what), due);
                Checks.due("cell(0, 1, " + what + ")", x.cell(0, 1, what), OUTSIDE);
                Checks.due("cell(5, 1, " + what + ")", x.cell(5, 1, what), OUTSIDE);
                Checks.due("cell(1, 0, " + what + ")", x.cell(1, 0, what), OUTSIDE);
                Checks.due("cell(1, 10, " + what + ")", x.cell(1, 10, what), OUTSIDE);
            }
            x.size(10, 5);
            Checks.due("a cell that came", x.cell(5, 10, 0), 32);
            x.size(8, 3);
            Checks.due("a line that went", x.cell(4, 1, 0), OUTSIDE);
            Checks.due("a column that went", x.cell(1, 9, 0), OUTSIDE);
        }
    }

    private static void toldBounds() {
        Checks.about("0 LINES, 1 WIDTH, 2 HEIGHT, .. 14, 15 COLOURS. OUTSIDE");
        ZScreens x = new ZScreens(5, 20, 10);
        x.split(3);
        Checks.tell(x, "a\nb\nc\nd\ne\nf\ng\nef ");
        x.choose(1);
        x.cursor(2, 16);
        x.choose(0);
        x.style(8);
        x.font(4);
        x.colour(5, 6);
        Checks.tell(x, "12345678901");
        int[] want = {10, 20, 3, 0, 7, 4, 2, 16, 7, 1, 1, 11, 8, 4, 5, 6};
        for (int what = -1; what <= 17; what++) {
            int due = what < 0 || what >= want.length ? OUTSIDE : want[what];
            Checks.due("told(" + what + ")", x.told(what), due);
        }
        x.choose(1);
        Checks.due("told(3), the other pane", x.told(3), 1);
        Checks.due("the least", x.told(Integer.MIN_VALUE), OUTSIDE);
        Checks.due("the largest", x.told(Integer.MAX_VALUE), OUTSIDE);
    }
}
