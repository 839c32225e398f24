/** The boundary cases of the document's terms and of its part 1 (panes), a method for each sentence. */
public final class EdgesOfPanesTest {
    private static final int OUTSIDE = ZScreens.OUTSIDE, STATE = ZScreens.STATE;

    public static void main(String[] args) {
        linesAreThreeToForty();
        widthIsEightToEighty();
        countedFromOne();
        allAreBlankAtFirst();
        blankHasTheColoursOfNow();
        lineOneIsTheStatusLine();
        upperHasTheFirstLines();
        heightIsZeroAtFirst();
        lowerHasOneLineAtLeast();
        firstPlaceOfTheLower();
        firstPlaceOfTheUpper();
        lowerIsChosenAtFirst();
        heightIsWhatIsAskedFor();
        cellsStayInASplit();
        upperCellsAreBlankInVersion3();
        lowerCursorStaysOnTheScreen();
        lowerCursorInTheUpperPane();
        upperCursorInItsLastLine();
        upperCursorInNoneOfItsLines();
        heightZeroChoosesTheLower();
        chooseUpperNeedsALine();
        chooseUpperGoesToLineOne();
        chooseLowerKeepsCursors();
        Checks.finish();
    }

    private static void linesAreThreeToForty() {
        Checks.about("THE SCREEN has LINES (3 to 40)");
        int[][] rows = {{Integer.MIN_VALUE, 3}, {-1, 3}, {0, 3}, {2, 3}, {3, 3}, {4, 4}, {39, 39}, {40, 40}, {41, 40},
            {Integer.MAX_VALUE, 40}};
        for (int version = 1; version <= 8; version++) {
            for (int[] row : rows) {
                ZScreens x = new ZScreens(version, 10, row[0]);
                Checks.due("LINES of " + row[0], x.told(0), row[1]);
                Checks.due("a cell of the last line", x.cell(row[1], 1, 0), 32);
                Checks.due("a cell of the line behind it", x.cell(row[1] + 1, 1, 0), OUTSIDE);
            }
        }
    }

    private static void widthIsEightToEighty() {
        Checks.about("LINES (3 to 40) of WIDTH (8 to 80) CELLS");
        int[][] rows = {{Integer.MIN_VALUE, 8}, {-1, 8}, {0, 8}, {7, 8}, {8, 8}, {9, 9}, {79, 79}, {80, 80}, {81, 80},
            {Integer.MAX_VALUE, 80}};
        for (int version = 1; version <= 8; version++) {
            for (int[] row : rows) {
                ZScreens x = new ZScreens(version, row[0], 5);
                Checks.due("WIDTH of " + row[0], x.told(1), row[1]);
                Checks.due("a cell of the last column", x.cell(1, row[1], 0), 32);
                Checks.due("a cell of the column behind it", x.cell(1, row[1] + 1, 0), OUTSIDE);
            }
        }
    }

    private static void countedFromOne() {
        Checks.about("lines and columns counted from 1 on");
        ZScreens x = new ZScreens(5, 8, 3);
        Checks.tell(x, "a\n\n");
        Checks.due("the first cell", x.cell(1, 1, 0), 'a');
        Checks.due("line 0", x.cell(0, 1, 0), OUTSIDE);
        Checks.due("column 0", x.cell(1, 0, 0), OUTSIDE);
        Checks.tell(x, "12345678");
        Checks.due("the last cell", x.cell(3, 8, 0), '8');
    }

    private static void allAreBlankAtFirst() {
        Checks.about("BLANK is SIGN 32, STYLE 0, FONT 1, the COLOURS as they are now; so all are at first");
        for (int version = 1; version <= 8; version++) {
            for (int most = 0; most <= 1; most++) {
                ZScreens x = new ZScreens(version, most == 0 ? 8 : 80, most == 0 ? 3 : 40);
                for (int line = 1; line <= x.told(0); line++) {
                    for (int column = 1; column <= x.told(1); column++) {
                        Checks.due("a cell", Checks.cell(x, line, column), "32 0 1 2 9");
                    }
                }
            }
        }
    }

    private static void blankHasTheColoursOfNow() {
        Checks.about("BLANK is SIGN 32, STYLE 0, FONT 1, the COLOURS as they are now");
        ZScreens x = new ZScreens(5, 8, 3);
        x.style(15);
        x.font(4);
        x.colour(9, 2);
        Checks.due("a cell that was BLANK before", Checks.cell(x, 1, 1), "32 0 1 2 9");
        x.erase(0);
        Checks.due("one that is BLANK now", Checks.cell(x, 1, 1), "32 0 1 9 2");
        x.colour(1, 1);
        Checks.due("the colours change behind it", Checks.cell(x, 1, 1), "32 0 1 9 2");
    }

    private static void lineOneIsTheStatusLine() {
        Checks.about("In VERSIONS 1 to 3 line 1 is THE STATUS LINE");
        for (int version = 1; version <= 8; version++) {
            ZScreens x = new ZScreens(version, 8, 3);
            Checks.tell(x, "a\nb\nc\nd");
            x.buffer(true);
            Checks.due("the first line, version " + version, Checks.line(x, 1), version <= 3 ? "" : "b");
            Checks.due("the others", Checks.line(x, 2) + Checks.line(x, 3), "cd");
        }
    }

    private static void upperHasTheFirstLines() {
        Checks.about("Of what is below it (else of all) the UPPER pane has the first HEIGHT lines");
        for (int version = 3; version <= 8; version++) {
            ZScreens x = new ZScreens(version, 8, 5);
            x.split(2);
            x.choose(1);
            Checks.tell(x, "a\nb\nc");
            Checks.due("version " + version, Checks.signs(x), version == 3 ? "|a|c||" : "a|c|||");
        }
    }

    private static void heightIsZeroAtFirst() {
        Checks.about("the UPPER pane has the first HEIGHT lines (0 at first)");
        for (int version = 1; version <= 8; version++) {
            Checks.due("HEIGHT", new ZScreens(version, 8, 40).told(2), 0);
        }
    }

    private static void lowerHasOneLineAtLeast() {
        Checks.about("the LOWER one the others, 1 at least");
        for (int version = 3; version <= 8; version++) {
            for (int lines = 3; lines <= 40; lines += 37) {
                ZScreens x = new ZScreens(version, 8, lines);
                Checks.due("HEIGHT", x.split(255), version == 3 ? lines - 2 : lines - 1);
                Checks.tell(x, "a\nb");
                x.read();
                Checks.due("its only line", Checks.line(x, lines), "b");
                Checks.due("the line above it", Checks.line(x, lines - 1), "");
                Checks.due("its cursor", x.told(4), 1);
            }
        }
    }

    private static void firstPlaceOfTheLower() {
        Checks.about("THE FIRST PLACE .. of the LOWER one line 1 in VERSION 5 +, else its last line, column 1");
        for (int version = 1; version <= 8; version++) {
            for (int lines = 3; lines <= 40; lines += 37) {
                ZScreens x = new ZScreens(version, 8, lines);
                Checks.due("line", x.told(4), version >= 5 ? 1 : version == 4 ? lines : lines - 1);
                Checks.due("column", x.told(5), 1);
            }
        }
    }

    private static void firstPlaceOfTheUpper() {
        Checks.about("THE FIRST PLACE of the UPPER one is line 1, column 1");
        for (int version = 1; version <= 8; version++) {
            ZScreens x = new ZScreens(version, 8, 3);
            Checks.due("line, though it has none", x.told(6), 1);
            Checks.due("column", x.told(7), 1);
        }
    }

    private static void lowerIsChosenAtFirst() {
        Checks.about("CURSORS are at THE FIRST PLACES at first, the LOWER pane is CHOSEN");
        for (int version = 1; version <= 8; version++) {
            ZScreens x = new ZScreens(version, 8, 3);
            Checks.due("told(3)", x.told(3), 0);
            x.sign('a');
            Checks.due("a word waits there", x.told(11), 1);
        }
    }

    private static void heightIsWhatIsAskedFor() {
        Checks.about("HEIGHT is n, or as many as leave the LOWER pane one line");
        for (int version = 3; version <= 8; version++) {
            int most = version == 3 ? 4 : 5;
            ZScreens x = new ZScreens(version, 8, 6);
            int[] asked = {0, 1, most - 1, most, most + 1, 254, 255, most, 0, 255};
            for (int n : asked) {
                Checks.due("split(" + n + "), version " + version, x.split(n), Math.min(n, most));
                Checks.due("told(2)", x.told(2), Math.min(n, most));
            }
        }
    }

    private static void cellsStayInASplit() {
        Checks.about("CELLS stay where they are");
        for (int version = 4; version <= 8; version++) {
            ZScreens x = new ZScreens(version, 8, 4);
            x.style(5);
            x.font(3);
            Checks.tell(x, "a\nb\nc\nd ");
            x.colour(7, 8);
            String before = Checks.cells(x);
            int[] asked = {1, 3, 255, 2, 0, 255, 0};
            for (int n : asked) {
                x.split(n);
                Checks.due("split(" + n + "), version " + version, Checks.cells(x), before);
            }
        }
    }

    private static void upperCellsAreBlankInVersion3() {
        Checks.about("in VERSION 3 those of the UPPER pane become BLANK then");
        ZScreens x = new ZScreens(3, 8, 5);
        x.status(0, 1, 2);
        Checks.tell(x, "a\nb\nc\nd ");
        x.split(0);
        Checks.due("none of HEIGHT 0", Checks.signs(x), "    1/2|a|b|c|d");
        x.split(1);
        Checks.due("one", Checks.signs(x), "    1/2||b|c|d");
        x.choose(1);
        x.sign('u');
        x.split(1);
        Checks.due("the same HEIGHT again", Checks.signs(x), "    1/2||b|c|d");
        x.split(2);
        Checks.tell(x, "\nu");
        x.split(1);
        Checks.due("not those that are the LOWER pane's now", Checks.signs(x), "    1/2||u|c|d");
        x.split(0);
        Checks.due("none of HEIGHT 0 again", Checks.signs(x), "    1/2||u|c|d");
        x.split(255);
        Checks.due("all but the last line", Checks.signs(x), "    1/2||||d");
        Checks.due("THE STATUS LINE keeps its style", Checks.part(x, 1, 1), "11111111");
    }

    private static void lowerCursorStaysOnTheScreen() {
        Checks.about("The LOWER CURSOR stays where it is on THE SCREEN");
        ZScreens x = new ZScreens(5, 8, 6);
        Checks.tell(x, "\n\nabcdefgh ");
        Checks.cursors("at first", x, 3, 9, 1, 1);
        x.split(1);
        Checks.cursors("split(1)", x, 2, 9, 1, 1);
        x.split(2);
        Checks.cursors("split(2): the first line of the pane", x, 1, 9, 1, 1);
        x.split(2);
        Checks.cursors("split(2) again", x, 1, 9, 1, 1);
        x.split(0);
        Checks.cursors("split(0)", x, 3, 9, 1, 1);
        for (int version = 3; version <= 4; version++) {
            ZScreens y = new ZScreens(version, 8, 6);
            int last = version == 3 ? 5 : 6;
            Checks.tell(y, "ab ");
            Checks.cursors("the last line", y, last, 4, 1, 1);
            y.split(2);
            Checks.cursors("two lines less", y, last - 2, 4, 1, 1);
            y.split(255);
            Checks.cursors("one line", y, 1, 4, 1, 1);
            y.split(0);
            Checks.cursors("all lines", y, last, 4, 1, 1);
        }
    }

    private static void lowerCursorInTheUpperPane() {
        Checks.about("but when that is in the UPPER pane now it is at line 1, column 1");
        ZScreens x = new ZScreens(5, 8, 6);
        Checks.tell(x, "\n\nab ");
        x.split(3);
        Checks.cursors("it was in the last line of the UPPER pane", x, 1, 1, 1, 1);
        x.split(0);
        Checks.cursors("it stays in line 4 then", x, 4, 1, 1, 1);
        x.split(5);
        Checks.cursors("in a line above the last one", x, 1, 1, 1, 1);
        ZScreens y = new ZScreens(5, 8, 6);
        Checks.tell(y, "ab ");
        y.split(1);
        Checks.cursors("a pane of one line", y, 1, 1, 1, 1);
        ZScreens z = new ZScreens(3, 8, 4);
        z.size(8, 6);
        Checks.tell(z, "ab ");
        Checks.cursors("version 3: two lines are behind it", z, 3, 4, 1, 1);
        z.split(2);
        Checks.cursors("version 3: not yet", z, 1, 4, 1, 1);
        z.split(3);
        Checks.cursors("version 3: in the UPPER pane", z, 1, 1, 1, 1);
    }

    private static void upperCursorInItsLastLine() {
        Checks.about("The UPPER CURSOR, when it is in none of its lines: in its last one it stays");
        ZScreens x = new ZScreens(5, 8, 6);
        x.split(3);
        x.choose(1);
        x.cursor(3, 8);
        x.sign('a');
        int[] asked = {3, 5, 3};
        for (int n : asked) {
            x.split(n);
            Checks.due("line after split(" + n + ")", x.told(6), 3);
            Checks.due("column after split(" + n + ")", x.told(7), 9);
            Checks.due("the pane that is CHOSEN", x.told(3), 1);
        }
    }

    private static void upperCursorInNoneOfItsLines() {
        Checks.about("The UPPER CURSOR, when it is in none of its lines, is at line 1, column 1");
        for (int version = 3; version <= 8; version++) {
            ZScreens x = new ZScreens(version, 8, 6);
            x.split(3);
            x.choose(1);
            Checks.tell(x, "\n\nab");
            Checks.due("line 3", x.told(6), 3);
            x.split(2);
            Checks.due("line, by split(2)", x.told(6), 1);
            Checks.due("column, by split(2)", x.told(7), 1);
            Checks.tell(x, "abc");
            x.split(0);
            Checks.due("line, by split(0)", x.told(6), 1);
            Checks.due("column, by split(0)", x.told(7), 1);
        }
    }

    private static void heightZeroChoosesTheLower() {
        Checks.about("With HEIGHT 0 the LOWER pane is CHOSEN");
        for (int version = 3; version <= 8; version++) {
            ZScreens x = new ZScreens(version, 8, 6);
            x.split(2);
            x.choose(1);
            x.split(1);
            Checks.due("with HEIGHT 1 it stays", x.told(3), 1);
            x.split(0);
            Checks.due("with HEIGHT 0", x.told(3), 0);
            x.split(2);
            Checks.due("another split does not choose", x.told(3), 0);
        }
    }

    private static void chooseUpperNeedsALine() {
        Checks.about("the UPPER one (HEIGHT 0: STATE)");
        for (int version = 3; version <= 8; version++) {
            ZScreens x = new ZScreens(version, 8, 6);
            Checks.due("at first", x.choose(1), STATE);
            x.split(1);
            Checks.due("one line is enough", x.choose(1), 0);
            x.split(0);
            Checks.due("no line again", x.choose(1), STATE);
            Checks.due("the LOWER pane is CHOSEN", x.told(3), 0);
            Checks.due("the LOWER one can be had", x.choose(0), 0);
        }
    }

    private static void chooseUpperGoesToLineOne() {
        Checks.about("its CURSOR is at line 1, column 1 then");
        for (int version = 3; version <= 8; version++) {
            ZScreens x = new ZScreens(version, 8, 6);
            x.split(2);
            x.choose(1);
            Checks.tell(x, "\nab");
            Checks.due("choose(1) again", x.choose(1), 1);
            Checks.due("line", x.told(6), 1);
            Checks.due("column", x.told(7), 1);
            Checks.tell(x, "\nab");
            x.choose(0);
            Checks.due("from the other one", x.choose(1), 0);
            Checks.due("line", x.told(6), 1);
            Checks.due("column", x.told(7), 1);
        }
    }

    private static void chooseLowerKeepsCursors() {
        Checks.about("its CURSOR is at line 1, column 1 then: the UPPER one's alone");
        ZScreens x = new ZScreens(5, 8, 6);
        x.split(2);
        Checks.tell(x, "a\nbc ");
        x.choose(1);
        Checks.tell(x, "\nab");
        Checks.due("choose(0)", x.choose(0), 1);
        Checks.cursors("both stay", x, 2, 4, 2, 3);
        Checks.due("choose(0) again", x.choose(0), 0);
        Checks.cursors("both stay again", x, 2, 4, 2, 3);
    }
}
