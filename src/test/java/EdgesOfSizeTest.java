/** The boundary cases of the document's last paragraph of part 3 (another size), a method for each sentence. */
public final class EdgesOfSizeTest {
    public static void main(String[] args) {
        nearestThatMayBe();
        linesKeepTheirFirstCells();
        otherCellsAreBlank();
        whatWasCutOffIsGone();
        heightLeavesOneLine();
        heightDoesNotGrow();
        upperKeepsItsFirstLines();
        lowerKeepsItsLastLines();
        blankOnesBehind();
        statusLineStays();
        lowerCursorStaysInItsLine();
        lowerCursorOfALineThatWent();
        columnsAreWidthAndOneAtMost();
        upperCursorInNoneOfItsLines();
        upperCursorInItsLastLine();
        heightZeroChoosesTheLower();
        countIsZero();
        firstAndLastSize();
        Checks.finish();
    }

    private static void nearestThatMayBe() {
        Checks.about("ANOTHER SIZE, the nearest that may be: 100 times LINES, and WIDTH. OUTSIDE: 0 to 65,536");
        int[][] rows = {{0, 0, 308}, {7, 2, 308}, {8, 3, 308}, {9, 4, 409}, {79, 39, 3979}, {80, 40, 4080},
            {81, 41, 4080}, {65535, 65535, 4080}, {65536, 65536, 4080}, {0, 65536, 4008}, {65536, 0, 380},
            {-1, 5, -1}, {5, -1, -1}, {65537, 5, -1}, {5, 65537, -1}, {Integer.MIN_VALUE, 5, -1},
            {5, Integer.MIN_VALUE, -1}, {Integer.MAX_VALUE, 5, -1}, {5, Integer.MAX_VALUE, -1}};
        for (int version = 1; version <= 8; version++) {
            for (int[] row : rows) {
                ZScreens x = new ZScreens(version, 20, 10);
                Checks.due("size(" + row[0] + ", " + row[1] + ")", x.size(row[0], row[1]), row[2]);
                int want = row[2] == -1 ? 1020 : row[2];
                Checks.due("LINES", x.told(0), want / 100);
                Checks.due("WIDTH", x.told(1), want % 100);
            }
        }
    }

    private static void linesKeepTheirFirstCells() {
        Checks.about("WIDTH: lines keep their first CELLS");
        ZScreens x = new ZScreens(5, 10, 3);
        x.style(6);
        x.font(4);
        x.colour(3, 4);
        x.split(1);
        x.choose(1);
        Checks.tell(x, "upperupper");
        x.choose(0);
        Checks.tell(x, "lowerlower\n1234567890");
        x.size(9, 3);
        Checks.due("one column less", Checks.signs(x), "upperuppe|lowerlowe|123456789");
        Checks.due("a whole cell", Checks.cell(x, 3, 9), "57 6 4 3 4");
        x.size(8, 3);
        Checks.due("the least", Checks.signs(x), "upperupp|lowerlow|12345678");
    }

    private static void otherCellsAreBlank() {
        Checks.about("WIDTH: .. others are BLANK");
        for (int version = 4; version <= 5; version++) {
            ZScreens x = new ZScreens(version, 8, 3);
            x.style(6);
            x.font(4);
            Checks.tell(x, "12345678");
            x.read();
            x.colour(3, 4);
            x.size(9, 3);
            int line = version == 4 ? 3 : 1;
            Checks.due("the last that was", Checks.cell(x, line, 8), version == 4 ? "56 6 1 2 9" : "56 6 4 2 9");
            Checks.due("the one more", Checks.cell(x, line, 9), version == 4 ? "32 0 1 2 9" : "32 0 1 3 4");
            x.size(80, 3);
            for (int each = 1; each <= 3; each++) {
                Checks.due("the last of line " + each, Checks.cell(x, each, 80), version == 4 ? "32 0 1 2 9" : "32 0 1 3 4");
            }
        }
    }

    private static void whatWasCutOffIsGone() {
        Checks.about("others are BLANK: those that were cut off, too");
        ZScreens x = new ZScreens(5, 10, 4);
        Checks.tell(x, "1234567890a\nb\nc ");
        Checks.due("before", Checks.signs(x), "1234567890|a|b|c");
        x.size(8, 3);
        x.colour(6, 7);
        x.size(10, 4);
        Checks.due("signs", Checks.signs(x), "a|b|c|");
        Checks.due("a column that came back", Checks.cell(x, 1, 10), "32 0 1 6 7");
        Checks.due("a line that came back", Checks.cell(x, 4, 1), "32 0 1 6 7");
    }

    private static void heightLeavesOneLine() {
        Checks.about("LINES: HEIGHT as much as leaves the LOWER pane one line");
        for (int version = 3; version <= 8; version++) {
            int head = version == 3 ? 1 : 0;
            ZScreens x = new ZScreens(version, 8, 12 + head);
            x.split(5);
            x.size(8, 7 + head);
            Checks.due("two lines are left", x.told(2), 5);
            x.size(8, 6 + head);
            Checks.due("one line is left", x.told(2), 5);
            x.size(8, 5 + head);
            Checks.due("one less", x.told(2), 4);
            x.size(8, 3);
            Checks.due("the least", x.told(2), 2 - head);
        }
    }

    private static void heightDoesNotGrow() {
        Checks.about("LINES: HEIGHT as much as leaves the LOWER pane one line: it does not grow again");
        ZScreens x = new ZScreens(5, 8, 8);
        x.split(6);
        x.size(8, 4);
        x.size(8, 40);
        Checks.due("HEIGHT", x.told(2), 3);
    }

    private static ZScreens filled(int version, int lines, int height) {
        ZScreens x = new ZScreens(version, 8, lines);
        x.split(height);
        x.status(0, 1, 2);
        x.buffer(false);
        int below = lines - height - (version <= 3 ? 1 : 0);
        for (int i = 1; i <= below; i++) {
            Checks.tell(x, (i == 1 ? "" : "\n") + (char) ('a' + i - 1));
        }
        if (height > 0) {
            x.choose(1);
            for (int i = 1; i <= height; i++) {
                Checks.tell(x, (i == 1 ? "" : "\n") + i);
            }
        }
        return x;
    }

    private static void upperKeepsItsFirstLines() {
        Checks.about("the UPPER pane keeps its first lines");
        ZScreens x = filled(5, 8, 5);
        Checks.due("before", Checks.signs(x), "1|2|3|4|5|a|b|c");
        x.size(8, 6);
        Checks.due("all of them", Checks.signs(x), "1|2|3|4|5|c");
        x.size(8, 5);
        Checks.due("one less", Checks.signs(x), "1|2|3|4|c");
        x.size(8, 3);
        Checks.due("the least", Checks.signs(x), "1|2|c");
        x = filled(3, 8, 5);
        x.size(8, 5);
        Checks.due("version 3", Checks.signs(x), "    1/2|1|2|3|b");
    }

    private static void lowerKeepsItsLastLines() {
        Checks.about("the LOWER one its last lines, as many as there is room for, in their order");
        ZScreens x = filled(5, 8, 2);
        Checks.due("before", Checks.signs(x), "1|2|a|b|c|d|e|f");
        x.size(8, 7);
        Checks.due("one less", Checks.signs(x), "1|2|b|c|d|e|f");
        x.size(8, 4);
        Checks.due("two", Checks.signs(x), "1|2|e|f");
        x.size(8, 3);
        Checks.due("one", Checks.signs(x), "1|2|f");
        x = filled(4, 6, 0);
        x.size(8, 3);
        Checks.due("without an UPPER pane", Checks.signs(x), "d|e|f");
        x = filled(1, 6, 0);
        x.size(8, 3);
        Checks.due("below THE STATUS LINE", Checks.signs(x), "    1/2|d|e");
    }

    private static void blankOnesBehind() {
        Checks.about("with BLANK ones behind if there is more room");
        ZScreens x = filled(5, 4, 2);
        x.style(15);
        x.colour(4, 5);
        x.size(8, 6);
        Checks.due("signs", Checks.signs(x), "1|2|a|b||");
        Checks.due("their first cell", Checks.cell(x, 5, 1), "32 0 1 4 5");
        Checks.due("their last cell", Checks.cell(x, 6, 8), "32 0 1 4 5");
        x.size(8, 40);
        Checks.due("the last cell of the largest", Checks.cell(x, 40, 8), "32 0 1 4 5");
        Checks.due("the lower lines", Checks.line(x, 3) + Checks.line(x, 4), "ab");
    }

    private static void statusLineStays() {
        Checks.about("(THE STATUS LINE stays.)");
        for (int version = 1; version <= 3; version++) {
            ZScreens x = filled(version, 6, 0);
            x.size(10, 3);
            Checks.due("its signs, fewer lines", Checks.line(x, 1), "    1/2");
            x.size(10, 40);
            Checks.due("its signs, more lines", Checks.line(x, 1), "    1/2");
            Checks.due("its styles, others BLANK", Checks.part(x, 1, 1), "1111111100");
            Checks.due("the line below it", Checks.line(x, 2), "d");
        }
    }

    private static void lowerCursorStaysInItsLine() {
        Checks.about("The LOWER CURSOR stays in its line");
        ZScreens x = filled(5, 8, 2);
        Checks.due("its line", x.told(4), 6);
        x.size(8, 5);
        Checks.due("fewer lines: the line with f", x.told(4), 3);
        Checks.due("its sign", x.cell(2 + x.told(4), 1, 0), 'f');
        x.size(8, 9);
        Checks.due("more lines: the line with f", x.told(4), 3);
        Checks.due("its sign", x.cell(2 + x.told(4), 1, 0), 'f');
        x.size(8, 8);
        Checks.due("one line went", x.told(4), 2);
        x.size(8, 7);
        Checks.due("and one more: the first line now", x.told(4), 1);
        Checks.due("its sign", x.cell(3, 1, 0), 'f');
    }

    private static void lowerCursorOfALineThatWent() {
        Checks.about("(if that went in line 1)");
        ZScreens x = filled(5, 5, 0);
        x.size(8, 8);
        x.size(8, 3);
        Checks.cursors("its line was the last to go", x, 1, 2, 1, 1);
        Checks.due("signs", Checks.signs(x), "||");
        ZScreens y = new ZScreens(5, 8, 40);
        Checks.tell(y, "abcd ");
        y.size(8, 3);
        Checks.cursors("all of them went: the column stays", y, 1, 6, 1, 1);
    }

    private static void columnsAreWidthAndOneAtMost() {
        Checks.about("a CURSOR's column is WIDTH and 1 at most");
        for (int column = 9; column <= 13; column++) {
            ZScreens x = new ZScreens(5, 12, 4);
            x.split(1);
            Checks.tell(x, "x".repeat(column - 1));
            x.choose(1);
            Checks.tell(x, "x".repeat(column - 1));
            x.size(10, 4);
            Checks.cursors("column " + column, x, 1, Math.min(column, 11), 1, Math.min(column, 11));
            x.size(80, 4);
            Checks.cursors("wider again", x, 1, Math.min(column, 11), 1, Math.min(column, 11));
        }
    }

    private static void upperCursorInNoneOfItsLines() {
        Checks.about("the UPPER CURSOR, when it is in none of its lines, is at line 1, column 1");
        ZScreens x = filled(5, 8, 5);
        Checks.due("line 5", x.told(6), 5);
        x.size(8, 5);
        Checks.due("line", x.told(6), 1);
        Checks.due("column", x.told(7), 1);
        Checks.due("the UPPER pane is CHOSEN still", x.told(3), 1);
        ZScreens y = new ZScreens(5, 8, 5);
        y.size(9, 6);
        Checks.due("HEIGHT 0: line", y.told(6), 1);
        Checks.due("HEIGHT 0: column", y.told(7), 1);
    }

    private static void upperCursorInItsLastLine() {
        Checks.about("the UPPER CURSOR, when it is in none of its lines: in its last one it stays");
        ZScreens x = filled(5, 8, 5);
        x.cursor(4, 7);
        x.size(8, 5);
        Checks.due("HEIGHT", x.told(2), 4);
        Checks.due("line", x.told(6), 4);
        Checks.due("column", x.told(7), 7);
    }

    private static void heightZeroChoosesTheLower() {
        Checks.about("with HEIGHT 0 the LOWER pane is CHOSEN");
        ZScreens x = new ZScreens(5, 8, 5);
        x.size(8, 3);
        Checks.due("HEIGHT 0", x.told(3), 0);
        for (int version = 3; version <= 8; version++) {
            ZScreens y = filled(version, 5, 1);
            y.size(8, 3);
            Checks.due("HEIGHT stays 1", y.told(2), 1);
            Checks.due("so the UPPER one stays CHOSEN", y.told(3), 1);
        }
    }

    private static void countIsZero() {
        Checks.about("COUNT is 0");
        int[][] sizes = {{8, 6}, {9, 6}, {8, 5}, {8, 7}};
        for (int[] size : sizes) {
            ZScreens x = new ZScreens(5, 8, 6);
            Checks.tell(x, "\n\n\n");
            Checks.due("COUNT before", x.told(9), 3);
            x.size(size[0], size[1]);
            Checks.due("COUNT", x.told(9), 0);
            Checks.due("NEW LINES stay", x.told(8), 3);
            Checks.due("MORE stays", x.told(10), 0);
        }
    }

    private static void firstAndLastSize() {
        Checks.about("ANOTHER SIZE: from the least to the largest and back");
        for (int version = 1; version <= 8; version++) {
            ZScreens x = new ZScreens(version, 8, 3);
            Checks.tell(x, "a\nb ");
            x.size(80, 40);
            Checks.tell(x, "\n".repeat(40) + "x".repeat(80));
            Checks.due("the last cell", x.cell(40, 80, 0), 'x');
            x.size(8, 3);
            Checks.due("the last line", Checks.line(x, 3), "xxxxxxxx");
            Checks.due("the cursor's column", x.told(5), 9);
            Checks.due("the cursor's line", x.told(4), version <= 3 ? 2 : 3);
        }
    }
}
