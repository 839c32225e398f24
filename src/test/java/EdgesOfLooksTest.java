/** The boundary cases of the document's part 3 but for another size, a method for each sentence. */
public final class EdgesOfLooksTest {
    private static final int OUTSIDE = ZScreens.OUTSIDE, STATE = ZScreens.STATE;

    public static void main(String[] args) {
        eraseUpper();
        eraseUpperOfHeightZero();
        eraseLower();
        eraseLowerCount();
        eraseBoth();
        eraseAll();
        styleInVersion4();
        styleInVersion5();
        styleZero();
        coloursAtFirst();
        colourZero();
        colourOne();
        coloursTwoToNine();
        fontsThatAreThere();
        fontsThatAreNotThere();
        statusCells();
        statusIsDrawnAnew();
        numbersEndAheadOfTheLastColumn();
        numbersAheadOfColumnOne();
        scores();
        hours();
        minutes();
        nameFromColumnTwo();
        nameLeavesOneCell();
        nameIsEmptyThen();
        Checks.finish();
    }

    private static ZScreens written(int version) {
        ZScreens x = new ZScreens(version, 8, 5);
        x.split(2);
        Checks.tell(x, "a\nb\nc\n12345678");
        x.choose(1);
        Checks.tell(x, "u\n12345678");
        return x;
    }

    private static void eraseUpper() {
        Checks.about("TO ERASE a pane: its CELLS are BLANK, its CURSOR at THE FIRST PLACE (UPPER)");
        for (int version = 4; version <= 8; version++) {
            ZScreens x = written(version);
            x.style(1);
            x.font(3);
            x.colour(4, 5);
            int line = x.told(4);
            int count = x.told(9);
            Checks.due("erase(1)", x.erase(1), 1);
            Checks.due("signs", Checks.signs(x), "||b|c|12345678");
            Checks.due("its last cell", Checks.cell(x, 2, 8), version == 4 ? "32 0 1 2 9" : "32 0 1 4 5");
            Checks.due("the first cell below", x.cell(3, 2, 3), 2);
            Checks.cursors("cursors", x, line, 9, 1, 1);
            Checks.due("the pane that is CHOSEN", x.told(3), 1);
            Checks.due("HEIGHT", x.told(2), 2);
            Checks.due("COUNT stays", x.told(9), count);
        }
    }

    private static void eraseUpperOfHeightZero() {
        Checks.about("TO ERASE a pane: its CELLS are BLANK (a pane of HEIGHT 0 has none)");
        for (int version = 4; version <= 8; version++) {
            ZScreens x = new ZScreens(version, 8, 3);
            Checks.tell(x, "a\nb\nc ");
            String before = Checks.all(x);
            Checks.due("erase(1)", x.erase(1), 1);
            Checks.due("nothing changes", Checks.all(x), before);
        }
    }

    private static void eraseLower() {
        Checks.about("TO ERASE a pane: its CELLS are BLANK, its CURSOR at THE FIRST PLACE (LOWER)");
        for (int version = 4; version <= 8; version++) {
            ZScreens x = written(version);
            x.style(1);
            x.font(3);
            x.colour(4, 5);
            Checks.due("erase(0)", x.erase(0), 1);
            Checks.due("signs", Checks.signs(x), "u|12345678|||");
            Checks.due("its first cell", Checks.cell(x, 3, 1), version == 4 ? "32 0 1 2 9" : "32 0 1 4 5");
            Checks.due("its last cell", Checks.cell(x, 5, 8), version == 4 ? "32 0 1 2 9" : "32 0 1 4 5");
            Checks.due("the last cell above", x.cell(2, 8, 3), 2);
            Checks.cursors("cursors", x, version == 4 ? 3 : 1, 1, 2, 9);
            Checks.due("the pane that is CHOSEN", x.told(3), 1);
            Checks.due("HEIGHT", x.told(2), 2);
        }
    }

    private static void eraseLowerCount() {
        Checks.about("of the LOWER one COUNT is 0");
        int[] panes = {0, -1, -2, 1};
        for (int pane : panes) {
            ZScreens x = new ZScreens(5, 8, 6);
            x.split(1);
            Checks.tell(x, "\n\n");
            Checks.due("COUNT", x.told(9), 2);
            x.erase(pane);
            Checks.due("COUNT after erase(" + pane + ")", x.told(9), pane == 1 ? 2 : 0);
            Checks.due("NEW LINES stay", x.told(8), 2);
            Checks.due("MORE stays", x.told(10), 0);
        }
    }

    private static void eraseBoth() {
        Checks.about("-2: both panes");
        for (int version = 4; version <= 8; version++) {
            ZScreens x = written(version);
            Checks.due("erase(-2)", x.erase(-2), 1);
            Checks.due("signs", Checks.signs(x), "||||");
            Checks.cursors("cursors", x, version == 4 ? 3 : 1, 1, 1, 1);
            Checks.due("HEIGHT stays", x.told(2), 2);
            Checks.due("the pane that is CHOSEN stays", x.told(3), 1);
        }
    }

    private static void eraseAll() {
        Checks.about("-1: HEIGHT is 0 and the LOWER pane CHOSEN first, then both");
        for (int version = 4; version <= 8; version++) {
            ZScreens x = written(version);
            Checks.due("erase(-1)", x.erase(-1), 1);
            Checks.due("signs", Checks.signs(x), "||||");
            Checks.due("HEIGHT", x.told(2), 0);
            Checks.due("the pane that is CHOSEN", x.told(3), 0);
            Checks.cursors("THE FIRST PLACE of all lines", x, version == 4 ? 5 : 1, 1, 1, 1);
        }
    }

    private static void styleInVersion4() {
        Checks.about("STYLES (VERSION 4 +): 1, 2, 4, 8, and sums of them: in VERSION 4 it is that");
        ZScreens x = new ZScreens(4, 8, 3);
        int[] told = {15, 1, 2, 4, 8, 3, 12};
        for (int s : told) {
            Checks.due("style(" + s + ")", x.style(s), s);
            Checks.due("told(12)", x.told(12), s);
        }
    }

    private static void styleInVersion5() {
        Checks.about("in VERSION 5 + it is joined (as bits) to what is");
        for (int version = 5; version <= 8; version++) {
            ZScreens x = new ZScreens(version, 8, 3);
            int[][] rows = {{1, 1}, {2, 3}, {3, 3}, {2, 3}, {4, 7}, {8, 15}, {1, 15}, {15, 15}};
            for (int[] row : rows) {
                Checks.due("style(" + row[0] + ")", x.style(row[0]), row[1]);
                Checks.due("told(12)", x.told(12), row[1]);
            }
        }
    }

    private static void styleZero() {
        Checks.about("0: none");
        for (int version = 4; version <= 8; version++) {
            ZScreens x = new ZScreens(version, 8, 3);
            x.style(15);
            Checks.due("style(0)", x.style(0), 0);
            Checks.due("style(0) again", x.style(0), 0);
            Checks.due("told(12)", x.told(12), 0);
        }
    }

    private static void coloursAtFirst() {
        Checks.about("COLOURS (VERSION 5 +): 2 to 9; at first 2 on 9");
        for (int version = 1; version <= 8; version++) {
            ZScreens x = new ZScreens(version, 8, 3);
            Checks.due("told(14)", x.told(14), 2);
            Checks.due("told(15)", x.told(15), 9);
        }
    }

    private static void colourZero() {
        Checks.about("told 0 it stays");
        ZScreens x = new ZScreens(5, 8, 3);
        x.colour(5, 6);
        Checks.due("colour(0, 0)", x.colour(0, 0), 56);
        Checks.due("colour(0, 7)", x.colour(0, 7), 56);
        Checks.due("colour(8, 0)", x.colour(8, 0), 57);
        Checks.due("told(14)", x.told(14), 8);
        Checks.due("told(15)", x.told(15), 7);
    }

    private static void colourOne() {
        Checks.about("told 1 it is as at first");
        ZScreens x = new ZScreens(5, 8, 3);
        x.colour(5, 6);
        Checks.due("colour(1, 0)", x.colour(1, 0), 56);
        Checks.due("colour(5, 1)", x.colour(5, 1), 26);
        Checks.due("colour(1, 1)", x.colour(1, 1), 59);
        Checks.due("told(14)", x.told(14), 2);
        Checks.due("told(15)", x.told(15), 9);
    }

    private static void coloursTwoToNine() {
        Checks.about("COLOURS (VERSION 5 +): 2 to 9");
        ZScreens x = new ZScreens(8, 8, 3);
        x.buffer(false);
        for (int i = 2; i <= 9; i++) {
            x.colour(i, 11 - i);
            Checks.due("the first one", x.told(14), i);
            Checks.due("the second one", x.told(15), 11 - i);
            x.sign(33);
        }
        Checks.due("first colours of cells", Checks.part(x, 1, 3), "23456789");
        Checks.due("second colours of cells", Checks.part(x, 1, 4), "98765432");
    }

    private static void fontsThatAreThere() {
        Checks.about("FONTS (VERSION 5 +): 1, 3, 4 are there");
        for (int version = 5; version <= 8; version++) {
            ZScreens x = new ZScreens(version, 8, 3);
            Checks.due("font(3)", x.font(3), 1);
            Checks.due("font(4)", x.font(4), 3);
            Checks.due("font(1)", x.font(1), 4);
            Checks.due("font(1) again", x.font(1), 1);
            Checks.due("told(13)", x.told(13), 1);
        }
    }

    private static void fontsThatAreNotThere() {
        Checks.about("0, and nothing is done: it is not there. 0 told: the FONT that is");
        int[] missing = {Integer.MIN_VALUE, -1, 2, 5, 6, 16, 257, Integer.MAX_VALUE};
        for (int version = 5; version <= 8; version++) {
            ZScreens x = new ZScreens(version, 8, 3);
            x.font(4);
            for (int f : missing) {
                Checks.due("font(" + f + ")", x.font(f), 0);
                Checks.due("told(13)", x.told(13), 4);
            }
            Checks.due("font(0)", x.font(0), 4);
            Checks.due("told(13) behind font(0)", x.told(13), 4);
        }
    }

    private static void statusCells() {
        Checks.about("all its CELLS have SIGN 32, STYLE 1, FONT 1, COLOURS as now");
        for (int version = 1; version <= 3; version++) {
            ZScreens x = new ZScreens(version, 8, 3);
            x.status(0, 1, 2);
            for (int column = 1; column <= 8; column++) {
                int c = column < 5 || column == 8 ? 32 : "1/2".charAt(column - 5);
                Checks.due("cell " + column, Checks.cell(x, 1, column), c + " 1 1 2 9");
            }
            Checks.due("the cell below", Checks.cell(x, 2, 1), "32 0 1 2 9");
        }
    }

    private static void statusIsDrawnAnew() {
        Checks.about("all its CELLS have SIGN 32: nothing is left of what was");
        ZScreens x = new ZScreens(3, 20, 3);
        Checks.nameIt(x, "SOMEWHERE");
        x.status(0, -1000, -1000);
        x.status(0, 1, 2);
        Checks.due("signs", Checks.line(x, 1), " ".repeat(16) + "1/2");
    }

    private static void numbersEndAheadOfTheLastColumn() {
        Checks.about("then the NUMBERS, so that their last SIGN is in column WIDTH - 1");
        int[] widths = {8, 9, 80};
        for (int version = 1; version <= 3; version++) {
            for (int width : widths) {
                ZScreens x = new ZScreens(version, width, 3);
                Checks.due("they begin", x.status(0, 12, 34), width - 5);
                Checks.due("their first sign", x.cell(1, width - 5, 0), '1');
                Checks.due("their last sign", x.cell(1, width - 1, 0), '4');
                Checks.due("behind it", x.cell(1, width, 0), 32);
                Checks.due("ahead of it", x.cell(1, width - 6, 0), 32);
            }
        }
    }

    private static void numbersAheadOfColumnOne() {
        Checks.about("(what would be ahead of column 1 is lost)");
        ZScreens x = new ZScreens(1, 8, 3);
        Checks.due("column 1", x.status(0, 123, 456), 1);
        Checks.due("all is there", Checks.part(x, 1, 0), "123/456 ");
        Checks.due("column 0", x.status(0, 1234, 567), 0);
        Checks.due("one is lost", Checks.part(x, 1, 0), "234/567 ");
        Checks.due("column -1", x.status(0, 1234, 5678), -1);
        Checks.due("two are lost", Checks.part(x, 1, 0), "34/5678 ");
        Checks.due("column -2", x.status(0, -1234, 5678), -2);
        Checks.due("three are lost", Checks.part(x, 1, 0), "34/5678 ");
        Checks.due("column -3", x.status(0, -9999, -9998), -3);
        Checks.due("four are lost", Checks.part(x, 1, 0), "9/-9998 ");
        Checks.due("the line below", Checks.line(x, 2), "");
    }

    private static void scores() {
        Checks.about("SCORE a and b: a, /, b in decimals");
        ZScreens x = new ZScreens(2, 16, 3);
        int[] numbers = {-9999, -1000, -100, -10, -1, 0, 1, 9, 10, 99, 100, 999, 1000, 9999};
        for (int a : numbers) {
            for (int b : numbers) {
                String want = a + "/" + b;
                Checks.due(want, x.status(0, a, b), 16 - want.length());
                Checks.due("signs", Checks.line(x, 1).strip(), want);
            }
        }
    }

    private static void hours() {
        Checks.about("TIME a and b: the hours as 1 to 12 (a % 12, 12 for 0) .. then am, or pm from hour 12 on");
        ZScreens x = new ZScreens(3, 16, 3);
        String[] want = {"12am", "1am", "2am", "3am", "4am", "5am", "6am", "7am", "8am", "9am", "10am", "11am",
            "12pm", "1pm", "2pm", "3pm", "4pm", "5pm", "6pm", "7pm", "8pm", "9pm", "10pm", "11pm"};
        for (int hour = 0; hour <= 23; hour++) {
            Checks.due("column", x.status(1, hour, 30), want[hour].length() == 4 ? 9 : 10);
            Checks.due("signs", Checks.line(x, 1).strip().replace(":30", ""), want[hour]);
        }
    }

    private static void minutes() {
        Checks.about(":, the minutes in two figures");
        ZScreens x = new ZScreens(3, 16, 3);
        String[] want = {"00", "01", "09", "10", "59"};
        for (String text : want) {
            Checks.due("column", x.status(1, 13, Integer.parseInt(text)), 10);
            Checks.due("signs", Checks.line(x, 1).strip(), "1:" + text + "pm");
        }
    }

    private static void nameFromColumnTwo() {
        Checks.about("The NAME from column 2 on");
        for (int version = 1; version <= 3; version++) {
            ZScreens x = new ZScreens(version, 80, 3);
            for (int i = 0; i < 60; i++) {
                x.name(i == 0 ? '<' : i == 59 ? '>' : 32 + i);
            }
            x.status(0, 1, 2);
            Checks.due("ahead of it", x.cell(1, 1, 0), 32);
            Checks.due("its first one", Checks.cell(x, 1, 2), "60 1 1 2 9");
            Checks.due("its last one", Checks.cell(x, 1, 61), "62 1 1 2 9");
            Checks.due("behind it", x.cell(1, 62, 0), 32);
        }
    }

    private static void nameLeavesOneCell() {
        Checks.about("as much of it as leaves one CELL free ahead of the NUMBERS");
        String[][] rows = {{"ABC", " ABC 1/2 "}, {"ABCD", " ABC 1/2 "}, {"AB", " AB  1/2 "}};
        for (String[] row : rows) {
            ZScreens x = new ZScreens(3, 9, 3);
            Checks.nameIt(x, row[0]);
            x.status(0, 1, 2);
            Checks.due("the name " + row[0], Checks.part(x, 1, 0), row[1]);
        }
        int[] scores = {1, 11, 111, 1111, -1111, 9999};
        String[] want = {" A 1/11 ", "  11/11 ", " 111/11 ", "1111/11 ", "1111/11 ", "9999/11 "};
        for (int i = 0; i < scores.length; i++) {
            ZScreens x = new ZScreens(3, 8, 3);
            Checks.nameIt(x, "ABCDEFGHI");
            x.status(0, scores[i], 11);
            Checks.due("a name ahead of " + scores[i], Checks.part(x, 1, 0), want[i]);
        }
    }

    private static void nameIsEmptyThen() {
        Checks.about("THE STATUS LINE is drawn with the NAME, which is empty then");
        ZScreens x = new ZScreens(3, 12, 3);
        Checks.nameIt(x, "CAVE");
        Checks.due("a refused one keeps it", x.status(0, 10000, 0), OUTSIDE);
        Checks.due("five", x.name('S'), 5);
        x.status(1, 1, 1);
        Checks.due("drawn", Checks.part(x, 1, 0), " CAV 1:01am ");
        Checks.due("one", x.name('A'), 1);
        x.status(0, 1, 1);
        Checks.due("the new one", Checks.part(x, 1, 0), " A      1/1 ");
        x.status(0, 1, 1);
        Checks.due("an empty one", Checks.part(x, 1, 0), "        1/1 ");
        ZScreens y = new ZScreens(4, 12, 3);
        y.name('A');
        Checks.due("version 4", y.status(0, 1, 1), STATE);
        Checks.due("version 4 keeps it", y.name('B'), 2);
    }
}
