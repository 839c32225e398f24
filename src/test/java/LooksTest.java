/** Promises 8, 9, 10, 12, 13, 18, 19: style, colour, font, name, status, cell, told. */
public final class LooksTest {
    private static final int OUTSIDE = ZScreens.OUTSIDE, STATE = ZScreens.STATE;

    public static void main(String[] args) {
        styleInVersion4();
        styleInVersion5();
        styleRefusals();
        colours();
        colourRefusals();
        fonts();
        fontRefusals();
        names();
        score();
        scoreOfNarrowScreens();
        time();
        nameInTheStatusLine();
        statusLooks();
        statusRefusals();
        cells();
        tells();
        Checks.finish();
    }

    private static void styleInVersion4() {
        ZScreens x = new ZScreens(4, 8, 3);
        for (int s = 15; s >= 0; s--) {
            Checks.due("style(" + s + ")", x.style(s), s);
            Checks.due("told(12)", x.told(12), s);
        }
        x.style(8);
        Checks.due("it is that", x.style(3), 3);
    }

    private static void styleInVersion5() {
        for (int version = 5; version <= 8; version++) {
            ZScreens x = new ZScreens(version, 8, 3);
            Checks.due("style(1)", x.style(1), 1);
            Checks.due("style(4)", x.style(4), 5);
            Checks.due("style(5)", x.style(5), 5);
            Checks.due("style(10)", x.style(10), 15);
            Checks.due("told(12)", x.told(12), 15);
            Checks.due("style(0)", x.style(0), 0);
            Checks.due("style(8)", x.style(8), 8);
        }
    }

    private static void styleRefusals() {
        for (int version = 1; version <= 8; version++) {
            ZScreens x = new ZScreens(version, 8, 3);
            Checks.due("style(-1)", x.style(-1), OUTSIDE);
            Checks.due("style(16)", x.style(16), OUTSIDE);
            Checks.due("style(2), version " + version, x.style(2), version < 4 ? STATE : 2);
            Checks.due("told(12)", x.told(12), version < 4 ? 0 : 2);
        }
    }

    private static void colours() {
        ZScreens x = new ZScreens(5, 8, 3);
        Checks.due("colour(3, 4)", x.colour(3, 4), 29);
        Checks.due("colour(0, 5)", x.colour(0, 5), 34);
        Checks.due("colour(9, 0)", x.colour(9, 0), 35);
        Checks.due("colour(1, 2)", x.colour(1, 2), 95);
        Checks.due("colour(6, 1)", x.colour(6, 1), 22);
        Checks.due("colour(0, 0)", x.colour(0, 0), 69);
        Checks.due("told(14)", x.told(14), 6);
        Checks.due("told(15)", x.told(15), 9);
    }

    private static void colourRefusals() {
        for (int version = 1; version <= 8; version++) {
            ZScreens x = new ZScreens(version, 8, 3);
            int[][] wrong = {{-1, 2}, {10, 2}, {2, -1}, {2, 10}};
            for (int[] row : wrong) {
                Checks.due("colour(" + row[0] + ", " + row[1] + ")", x.colour(row[0], row[1]), OUTSIDE);
            }
            Checks.due("colour(4, 4), version " + version, x.colour(4, 4), version < 5 ? STATE : 29);
            Checks.due("told(14)", x.told(14), version < 5 ? 2 : 4);
            Checks.due("told(15)", x.told(15), version < 5 ? 9 : 4);
        }
    }

    private static void fonts() {
        ZScreens x = new ZScreens(5, 8, 3);
        Checks.due("font(0)", x.font(0), 1);
        Checks.due("font(4)", x.font(4), 1);
        Checks.due("font(3)", x.font(3), 4);
        int[] missing = {2, 5, -1, 7, Integer.MIN_VALUE, Integer.MAX_VALUE};
        for (int f : missing) {
            Checks.due("font(" + f + ")", x.font(f), 0);
        }
        Checks.due("font(0) again", x.font(0), 3);
        Checks.due("told(13)", x.told(13), 3);
        Checks.due("font(1)", x.font(1), 3);
        Checks.due("told(13) again", x.told(13), 1);
    }

    private static void fontRefusals() {
        for (int version = 1; version <= 4; version++) {
            ZScreens x = new ZScreens(version, 8, 3);
            for (int f = -1; f <= 5; f++) {
                Checks.due("font(" + f + "), version " + version, x.font(f), STATE);
            }
            Checks.due("told(13)", x.told(13), 1);
        }
    }

    private static void names() {
        for (int version = 1; version <= 8; version++) {
            ZScreens x = new ZScreens(version, 80, 3);
            Checks.due("name(31)", x.name(31), OUTSIDE);
            Checks.due("name(127)", x.name(127), OUTSIDE);
            Checks.due("name(13)", x.name(13), OUTSIDE);
            for (int i = 1; i <= 60; i++) {
                Checks.due("name", x.name(i % 2 == 0 ? 32 : 126), i);
            }
            Checks.due("the 61st", x.name(65), 60);
            Checks.due("the 62nd", x.name(65), 60);
            Checks.due("one that is outside", x.name(0), OUTSIDE);
        }
        ZScreens y = new ZScreens(1, 80, 3);
        for (int i = 0; i < 61; i++) {
            y.name(33 + i);
        }
        y.status(0, 1, 2);
        Checks.due("the first one", y.cell(1, 2, 0), 33);
        Checks.due("the 60th", y.cell(1, 61, 0), 92);
        Checks.due("not the 61st", y.cell(1, 62, 0), 32);
    }

    private static void score() {
        ZScreens x = new ZScreens(1, 20, 4);
        Checks.due("0/0", x.status(0, 0, 0), 17);
        Checks.due("signs", Checks.line(x, 1), "                0/0");
        Checks.due("-9999/9999", x.status(0, -9999, 9999), 10);
        Checks.due("signs", Checks.line(x, 1), "         -9999/9999");
        Checks.due("10/-305", x.status(0, 10, -305), 13);
        Checks.due("signs", Checks.line(x, 1), "            10/-305");
        Checks.due("cell in column WIDTH", x.cell(1, 20, 0), 32);
    }

    private static void scoreOfNarrowScreens() {
        ZScreens x = new ZScreens(2, 8, 4);
        Checks.nameIt(x, "ABC");
        Checks.due("ahead of column 1", x.status(0, -9999, -9999), -3);
        Checks.due("what is ahead is lost", Checks.part(x, 1, 0), "9/-9999 ");
        Checks.due("column 0", x.status(0, -123, 111), 0);
        Checks.due("its first sign is lost", Checks.part(x, 1, 0), "123/111 ");
        Checks.due("column 1", x.status(0, 123, 111), 1);
        Checks.due("all of it", Checks.part(x, 1, 0), "123/111 ");
    }

    private static void time() {
        ZScreens x = new ZScreens(3, 12, 4);
        int[][] rows = {{0, 0}, {0, 59}, {1, 5}, {9, 10}, {10, 9}, {11, 59}, {12, 0}, {13, 5}, {22, 30}, {23, 59}};
        String[] texts = {"12:00am", "12:59am", "1:05am", "9:10am", "10:09am", "11:59am", "12:00pm", "1:05pm",
            "10:30pm", "11:59pm"};
        for (int i = 0; i < rows.length; i++) {
            int begin = 12 - texts[i].length();
            Checks.due("status(1, ..): " + texts[i], x.status(1, rows[i][0], rows[i][1]), begin);
            Checks.due("signs", Checks.part(x, 1, 0), " ".repeat(begin - 1) + texts[i] + " ");
        }
    }

    private static void nameInTheStatusLine() {
        ZScreens x = new ZScreens(3, 12, 4);
        Checks.nameIt(x, "HALLWAY");
        Checks.due("status", x.status(0, 1, 2), 9);
        Checks.due("one cell is free", Checks.part(x, 1, 0), " HALLWA 1/2 ");
        Checks.due("the name is empty then", x.name(72), 1);
        x.status(0, 1, 2);
        Checks.due("the new one", Checks.part(x, 1, 0), " H      1/2 ");
        x.status(0, 1, 2);
        Checks.due("none", Checks.part(x, 1, 0), "        1/2 ");
        ZScreens y = new ZScreens(3, 8, 4);
        Checks.nameIt(y, "CAVE");
        y.status(0, 1, 22);
        Checks.due("begins in column 4: one sign", Checks.part(y, 1, 0), " C 1/22 ");
        Checks.nameIt(y, "CAVE");
        y.status(0, 11, 22);
        Checks.due("begins in column 3: none", Checks.part(y, 1, 0), "  11/22 ");
    }

    private static void statusLooks() {
        ZScreens x = new ZScreens(3, 8, 4);
        Checks.tell(x, "wait");
        Checks.nameIt(x, "A");
        x.status(0, 1, 2);
        Checks.due("styles", Checks.part(x, 1, 1), "11111111");
        Checks.due("fonts", Checks.part(x, 1, 2), "11111111");
        Checks.due("first colours", Checks.part(x, 1, 3), "22222222");
        Checks.due("second colours", Checks.part(x, 1, 4), "99999999");
        Checks.due("below", Checks.part(x, 2, 1), "00000000");
        Checks.due("status puts no word", x.told(11), 4);
        Checks.cursors("status moves no cursor", x, 3, 1, 1, 1);
    }

    private static void statusRefusals() {
        int[][] wrong = {{-1, 0, 0}, {2, 0, 0}, {0, -10000, 0}, {0, 10000, 0}, {0, 0, -10000}, {0, 0, 10000},
            {1, -1, 0}, {1, 24, 0}, {1, 0, -1}, {1, 0, 60}, {1, Integer.MIN_VALUE, 0}, {0, 0, Integer.MAX_VALUE}};
        for (int version = 1; version <= 8; version++) {
            ZScreens x = new ZScreens(version, 12, 4);
            x.name(65);
            for (int[] row : wrong) {
                Checks.due("status(" + row[0] + ", " + row[1] + ", " + row[2] + ")",
                    x.status(row[0], row[1], row[2]), OUTSIDE);
            }
            if (version != 3) {
                Checks.due("TIME in version " + version, x.status(1, 3, 4), STATE);
            }
            Checks.due("nothing is drawn", Checks.part(x, 1, 1), "000000000000");
            Checks.due("the name is kept", x.name(66), 2);
            Checks.due("SCORE in version " + version, x.status(0, 3, 4), version > 3 ? STATE : 9);
            Checks.due("the name then", x.name(66), version > 3 ? 3 : 1);
        }
    }

    private static void cells() {
        ZScreens x = new ZScreens(5, 9, 4);
        x.buffer(false);
        x.style(15);
        x.font(4);
        x.colour(8, 3);
        x.sign(126);
        int[] want = {126, 15, 4, 8, 3};
        for (int what = 0; what < want.length; what++) {
            Checks.due("cell(1, 1, " + what + ")", x.cell(1, 1, what), want[what]);
        }
        Checks.due("the last cell", x.cell(4, 9, 0), 32);
        int[][] wrong = {{0, 1, 0}, {5, 1, 0}, {1, 0, 0}, {1, 10, 0}, {1, 1, -1}, {1, 1, 5}, {-1, -1, -1},
            {Integer.MAX_VALUE, 1, 0}, {1, Integer.MIN_VALUE, 0}, {1, 1, Integer.MAX_VALUE}};
        for (int[] row : wrong) {
            Checks.due("cell(" + row[0] + ", " + row[1] + ", " + row[2] + ")",
                x.cell(row[0], row[1], row[2]), OUTSIDE);
        }
    }

    private static void tells() {
        ZScreens x = new ZScreens(5, 9, 8);
        x.split(4);
        Checks.tell(x, "a\nb\nc\nd\nef ");
        x.choose(1);
        x.cursor(2, 7);
        x.style(6);
        x.font(3);
        x.colour(4, 5);
        int[] want = {8, 9, 4, 1, 4, 4, 2, 7, 4, 1, 1, 0, 6, 3, 4, 5};
        for (int what = 0; what < want.length; what++) {
            Checks.due("told(" + what + ")", x.told(what), want[what]);
        }
        Checks.due("told(16)", x.told(16), OUTSIDE);
        Checks.due("told(-1)", x.told(-1), OUTSIDE);
        Checks.due("told(the largest)", x.told(Integer.MAX_VALUE), OUTSIDE);
        Checks.due("told(the least)", x.told(Integer.MIN_VALUE), OUTSIDE);
        ZScreens y = new ZScreens(1, 9, 8);
        Checks.tell(y, "abc");
        Checks.due("told(11)", y.told(11), 3);
    }
}
