/** Promise 17: size. */
public final class SizeTest {
    private static final int OUTSIDE = ZScreens.OUTSIDE;

    public static void main(String[] args) {
        answers();
        refusals();
        narrowerAndWider();
        fewerLines();
        moreLines();
        heightShrinks();
        statusLineStays();
        cursorsStay();
        cursorOfALineThatWent();
        columnsAtMost();
        blanks();
        countAndWord();
        Checks.finish();
    }

    private static void answers() {
        for (int version = 1; version <= 8; version++) {
            ZScreens x = new ZScreens(version, 10, 5);
            Checks.due("size(20, 6)", x.size(20, 6), 620);
            Checks.due("size(0, 0)", x.size(0, 0), 308);
            Checks.due("size(65536, 65536)", x.size(65536, 65536), 4080);
            Checks.due("size(7, 41)", x.size(7, 41), 4008);
            Checks.due("size(81, 2)", x.size(81, 2), 380);
            Checks.due("told(0)", x.told(0), 3);
            Checks.due("told(1)", x.told(1), 80);
            Checks.due("the last cell", x.cell(3, 80, 0), 32);
            Checks.due("no line more", x.cell(4, 1, 0), OUTSIDE);
        }
    }

    private static void refusals() {
        ZScreens x = new ZScreens(5, 10, 5);
        Checks.tell(x, "\nab");
        int[][] wrong = {{-1, 5}, {65537, 5}, {10, -1}, {10, 65537}, {Integer.MIN_VALUE, Integer.MAX_VALUE}};
        for (int[] row : wrong) {
            Checks.due("size(" + row[0] + ", " + row[1] + ")", x.size(row[0], row[1]), OUTSIDE);
        }
        Checks.due("refused: the word waits", x.told(11), 2);
        Checks.due("refused: COUNT", x.told(9), 1);
    }

    private static void narrowerAndWider() {
        ZScreens x = new ZScreens(5, 12, 4);
        Checks.tell(x, "abcdefghijkl\nmnop\n");
        x.size(9, 4);
        Checks.due("narrower", Checks.signs(x), "abcdefghi|mnop||");
        x.size(12, 4);
        Checks.due("wider: what was cut off is gone", Checks.signs(x), "abcdefghi|mnop||");
        x.size(80, 40);
        Checks.due("the largest", Checks.line(x, 1), "abcdefghi");
    }

    private static void fewerLines() {
        ZScreens x = new ZScreens(5, 8, 6);
        x.split(1);
        Checks.tell(x, "a\nb\nc\nd\ne");
        x.choose(1);
        Checks.tell(x, "up");
        Checks.due("before", Checks.signs(x), "up|a|b|c|d|e");
        x.size(8, 4);
        Checks.due("the upper pane's first, the lower one's last", Checks.signs(x), "up|c|d|e");
        Checks.cursors("in its line", x, 3, 2, 1, 3);
        Checks.due("the choice stays", x.told(3), 1);
    }

    private static void moreLines() {
        ZScreens x = new ZScreens(4, 8, 4);
        x.split(1);
        Checks.tell(x, "a\nb\nc");
        x.choose(1);
        Checks.tell(x, "up");
        x.size(8, 6);
        Checks.due("BLANK ones behind", Checks.signs(x), "up|a|b|c||");
        Checks.cursors("in its line", x, 3, 2, 1, 3);
        Checks.due("the height stays", x.told(2), 1);
    }

    private static void heightShrinks() {
        ZScreens x = new ZScreens(5, 8, 8);
        x.split(5);
        Checks.tell(x, "a\nb\nc");
        x.choose(1);
        Checks.tell(x, "1\n2\n3\n4\n5");
        Checks.due("size", x.size(8, 4), 408);
        Checks.due("height", x.told(2), 3);
        Checks.due("the first three, the last one", Checks.signs(x), "1|2|3|c");
        Checks.cursors("the upper cursor went", x, 1, 2, 1, 1);
        Checks.due("the choice stays", x.told(3), 1);
        x.size(8, 8);
        Checks.due("the height does not grow again", x.told(2), 3);
        Checks.due("BLANK ones behind", Checks.signs(x), "1|2|3|c||||");
        ZScreens y = new ZScreens(3, 8, 8);
        y.split(5);
        y.size(8, 3);
        Checks.due("version 3: height", y.told(2), 1);
    }

    private static void statusLineStays() {
        ZScreens x = new ZScreens(3, 8, 6);
        x.split(1);
        x.status(0, 1, 2);
        Checks.tell(x, "a\nb\nc\nd");
        x.size(10, 4);
        Checks.due("the status line, the upper pane, the last ones", Checks.signs(x), "    1/2||c|d");
        Checks.due("its styles", Checks.part(x, 1, 1), "1111111100");
        x.size(10, 7);
        Checks.due("more lines", Checks.signs(x), "    1/2||c|d|||");
    }

    private static void cursorsStay() {
        ZScreens x = new ZScreens(4, 8, 6);
        x.split(3);
        x.choose(1);
        x.cursor(2, 4);
        x.size(8, 40);
        Checks.cursors("more lines: the line in the pane stays", x, 3, 1, 2, 4);
        x.size(8, 5);
        Checks.cursors("fewer lines", x, 1, 1, 2, 4);
        Checks.due("height", x.told(2), 3);
    }

    private static void cursorOfALineThatWent() {
        ZScreens x = new ZScreens(5, 8, 6);
        Checks.tell(x, "a\nbc ");
        x.size(8, 3);
        Checks.cursors("its line went: line 1, the column stays", x, 1, 4, 1, 1);
        Checks.due("the last lines", Checks.signs(x), "||");
    }

    private static void columnsAtMost() {
        ZScreens x = new ZScreens(5, 12, 4);
        x.split(1);
        Checks.tell(x, "abcdefghijkl");
        x.choose(1);
        x.cursor(1, 12);
        x.sign(33);
        Checks.cursors("behind the last column", x, 1, 13, 1, 13);
        x.size(14, 4);
        Checks.cursors("wider", x, 1, 13, 1, 13);
        x.size(10, 4);
        Checks.cursors("narrower: WIDTH and 1", x, 1, 11, 1, 11);
        x.cursor(1, 5);
        x.size(8, 4);
        Checks.cursors("the other one stays", x, 1, 9, 1, 5);
    }

    private static void blanks() {
        ZScreens x = new ZScreens(5, 8, 3);
        x.colour(4, 5);
        x.style(3);
        x.font(4);
        x.size(10, 4);
        Checks.due("first colours of an old line", Checks.part(x, 3, 3), "2222222244");
        Checks.due("second colours of an old line", Checks.part(x, 3, 4), "9999999955");
        Checks.due("first colours of a new line", Checks.part(x, 4, 3), "4444444444");
        Checks.due("second colours of a new line", Checks.part(x, 4, 4), "5555555555");
        Checks.due("styles", Checks.part(x, 4, 1), "0000000000");
        Checks.due("fonts", Checks.part(x, 4, 2), "1111111111");
    }

    private static void countAndWord() {
        ZScreens x = new ZScreens(5, 8, 6);
        Checks.tell(x, "\nabcde fgh");
        x.size(20, 6);
        Checks.due("the word is put first, at the old width", Checks.signs(x), "|abcde|fgh|||");
        Checks.due("no word waits", x.told(11), 0);
        Checks.due("COUNT is 0", x.told(9), 0);
        Checks.due("NEW LINES", x.told(8), 2);
        Checks.tell(x, "\n");
        x.size(20, 6);
        Checks.due("the same size: COUNT is 0, too", x.told(9), 0);
        Checks.due("MORE", x.told(10), 0);
    }
}
