/** Promises 1 to 4, 6, 7: a new object, split, choose, cursor, erase, eraseLine. */
public final class PanesTest {
    private static final int OUTSIDE = ZScreens.OUTSIDE, STATE = ZScreens.STATE;

    public static void main(String[] args) {
        constants();
        newObject();
        nearestSizes();
        nearestVersions();
        splitBounds();
        splitVersions();
        splitKeepsCells();
        splitBlanksInVersion3();
        splitMovesLowerCursor();
        splitMovesUpperCursor();
        splitPutsTheWord();
        chooseAnswers();
        chooseRefusals();
        choosePutsTheWord();
        cursorInVersion4();
        cursorInVersion5();
        cursorRefusals();
        erasePane();
        eraseBothAndAll();
        eraseFirstPlaces();
        erasePutsTheWord();
        eraseRefusals();
        eraseLineCells();
        eraseLinePutsTheWord();
        Checks.finish();
    }

    private static void constants() {
        Checks.due("OUTSIDE", OUTSIDE, -1);
        Checks.due("STATE", STATE, -2);
    }

    private static void newObject() {
        for (int version = 1; version <= 8; version++) {
            ZScreens x = new ZScreens(version, 12, 7);
            int[] want = {7, 12, 0, 0, version >= 5 ? 1 : version == 4 ? 7 : 6, 1, 1, 1, 0, 0, 0, 0, 0, 1, 2, 9};
            for (int what = 0; what < want.length; what++) {
                Checks.due("new, version " + version + ": told(" + what + ")", x.told(what), want[what]);
            }
            for (int line = 1; line <= 7; line++) {
                Checks.due("new: signs", Checks.part(x, line, 0), "            ");
                Checks.due("new: styles", Checks.part(x, line, 1), "000000000000");
                Checks.due("new: fonts", Checks.part(x, line, 2), "111111111111");
                Checks.due("new: inks", Checks.part(x, line, 3), "222222222222");
                Checks.due("new: papers", Checks.part(x, line, 4), "999999999999");
            }
            Checks.due("new: written(-1)", x.written(-1), 0);
            Checks.due("new: buffer", x.buffer(true), 1);
            Checks.due("new: transcript", x.transcript(false), 0);
        }
    }

    private static void nearestSizes() {
        int[][] rows = {{8, 3, 8, 3}, {7, 2, 8, 3}, {80, 40, 80, 40}, {81, 41, 80, 40}, {0, 0, 8, 3}, {-5, 10, 8, 10},
            {Integer.MIN_VALUE, Integer.MAX_VALUE, 8, 40}, {Integer.MAX_VALUE, Integer.MIN_VALUE, 80, 3}};
        for (int[] row : rows) {
            ZScreens x = new ZScreens(5, row[0], row[1]);
            Checks.due("nearest width of " + row[0], x.told(1), row[2]);
            Checks.due("nearest lines of " + row[1], x.told(0), row[3]);
        }
    }

    private static void nearestVersions() {
        Checks.due("version 0 is 1", new ZScreens(0, 8, 3).split(1), STATE);
        Checks.due("version -9 has a status line", new ZScreens(Integer.MIN_VALUE, 8, 3).status(0, 1, 1), 5);
        Checks.due("version 9 is 8", new ZScreens(9, 8, 3).font(0), 1);
        Checks.due("the largest version is 8", new ZScreens(Integer.MAX_VALUE, 8, 3).told(4), 1);
    }

    private static void splitBounds() {
        ZScreens x = new ZScreens(5, 10, 6);
        Checks.due("split(-1)", x.split(-1), OUTSIDE);
        Checks.due("split(256)", x.split(256), OUTSIDE);
        Checks.due("split(255)", x.split(255), 5);
        Checks.due("split(5)", x.split(5), 5);
        Checks.due("split(4)", x.split(4), 4);
        Checks.due("split(0)", x.split(0), 0);
        Checks.due("split(255) in version 3", new ZScreens(3, 10, 6).split(255), 4);
        Checks.due("split(255) in version 4", new ZScreens(4, 10, 6).split(255), 5);
        Checks.due("split(2) in the least screen, version 3", new ZScreens(3, 8, 3).split(2), 1);
    }

    private static void splitVersions() {
        for (int version = 1; version <= 2; version++) {
            ZScreens x = new ZScreens(version, 10, 6);
            Checks.due("split(1) in version " + version, x.split(1), STATE);
            Checks.due("split(0) in version " + version, x.split(0), STATE);
            Checks.due("split(256) in version " + version, x.split(256), OUTSIDE);
        }
    }

    private static void splitKeepsCells() {
        for (int version = 4; version <= 8; version += 4) {
            ZScreens x = new ZScreens(version, 10, 4);
            Checks.tell(x, "a\nb\nc\nd\n");
            String before = Checks.signs(x);
            x.split(2);
            Checks.due("split keeps cells", Checks.signs(x), before);
            x.split(0);
            Checks.due("split back keeps cells", Checks.signs(x), before);
        }
    }

    private static void splitBlanksInVersion3() {
        ZScreens x = new ZScreens(3, 10, 5);
        x.status(0, 1, 2);
        Checks.tell(x, "a\nb\nc\nd");
        x.split(0);
        Checks.due("split(0) blanks none", Checks.signs(x), "      1/2|a|b|c|d");
        x.split(2);
        Checks.due("split(2) blanks two, not the status line", Checks.signs(x), "      1/2|||c|d");
    }

    private static void splitMovesLowerCursor() {
        ZScreens x = new ZScreens(5, 10, 6);
        Checks.tell(x, "a\nb\ncc ");
        Checks.cursors("before", x, 3, 4, 1, 1);
        x.split(2);
        Checks.cursors("split(2)", x, 1, 4, 1, 1);
        x.split(1);
        Checks.cursors("split(1)", x, 2, 4, 1, 1);
        x.split(3);
        Checks.cursors("split(3)", x, 1, 1, 1, 1);
        x.split(0);
        Checks.cursors("split(0)", x, 4, 1, 1, 1);
        ZScreens y = new ZScreens(3, 10, 6);
        y.split(4);
        Checks.cursors("version 3: split(4)", y, 1, 1, 1, 1);
        y.split(1);
        Checks.cursors("version 3: split(1)", y, 4, 1, 1, 1);
    }

    private static void splitMovesUpperCursor() {
        ZScreens x = new ZScreens(5, 10, 6);
        x.split(4);
        x.choose(1);
        x.cursor(3, 7);
        x.split(3);
        Checks.cursors("still in its lines", x, 2, 1, 3, 7);
        Checks.due("the upper pane is still chosen", x.told(3), 1);
        x.split(2);
        Checks.cursors("in none of its lines", x, 3, 1, 1, 1);
        x.cursor(1, 5);
        x.split(0);
        Checks.cursors("no lines", x, 5, 1, 1, 1);
        Checks.due("height 0: the lower pane is chosen", x.told(3), 0);
    }

    private static void splitPutsTheWord() {
        ZScreens x = new ZScreens(5, 10, 6);
        Checks.tell(x, "word");
        x.split(-1);
        Checks.due("a refused split puts no word", x.told(11), 4);
        x.split(1);
        Checks.due("split puts the word", x.told(11), 0);
        Checks.due("split puts it where the cursor was", Checks.line(x, 1), "word");
        Checks.cursors("the word was in the upper pane", x, 1, 1, 1, 1);
        ZScreens y = new ZScreens(3, 10, 3);
        Checks.tell(y, "word");
        y.split(1);
        Checks.due("version 3: the word stays in the lower pane", Checks.signs(y), "||word");
    }

    private static void chooseAnswers() {
        ZScreens x = new ZScreens(4, 10, 6);
        x.split(3);
        Checks.due("choose(1)", x.choose(1), 0);
        Checks.due("told(3)", x.told(3), 1);
        x.cursor(2, 5);
        Checks.due("choose(1) again", x.choose(1), 1);
        Checks.cursors("choose(1) again", x, 3, 1, 1, 1);
        x.cursor(3, 4);
        Checks.due("choose(0)", x.choose(0), 1);
        Checks.cursors("choose(0) moves none", x, 3, 1, 3, 4);
        Checks.due("choose(0) again", x.choose(0), 0);
        x.choose(1);
        Checks.cursors("choose(1) from the lower pane", x, 3, 1, 1, 1);
    }

    private static void chooseRefusals() {
        ZScreens x = new ZScreens(3, 10, 6);
        Checks.tell(x, "ab");
        Checks.due("choose(1) with height 0", x.choose(1), STATE);
        Checks.due("choose(2)", x.choose(2), OUTSIDE);
        Checks.due("choose(-1)", x.choose(-1), OUTSIDE);
        Checks.due("refused: the word waits", x.told(11), 2);
        Checks.due("choose(0)", x.choose(0), 0);
        Checks.due("choose(0): the word is put", x.told(11), 0);
        for (int version = 1; version <= 2; version++) {
            ZScreens y = new ZScreens(version, 10, 6);
            Checks.due("choose(0), version " + version, y.choose(0), STATE);
            Checks.due("choose(1), version " + version, y.choose(1), STATE);
            Checks.due("choose(2), version " + version, y.choose(2), OUTSIDE);
        }
    }

    private static void choosePutsTheWord() {
        ZScreens x = new ZScreens(5, 10, 6);
        x.split(2);
        Checks.tell(x, "low");
        x.choose(1);
        Checks.tell(x, "up");
        Checks.due("choose puts the word below", Checks.signs(x), "up||low|||");
        Checks.due("no word waits", x.told(11), 0);
    }

    private static void cursorInVersion4() {
        ZScreens x = new ZScreens(4, 10, 6);
        x.split(3);
        x.choose(1);
        int[][] rows = {{2, 5, 2, 5}, {3, 10, 3, 10}, {4, 11, 3, 10}, {0, 0, 1, 1}, {-7, 900, 1, 10},
            {Integer.MAX_VALUE, Integer.MIN_VALUE, 3, 1}};
        for (int[] row : rows) {
            Checks.due("cursor in version 4", x.cursor(row[0], row[1]), 1);
            Checks.cursors("cursor(" + row[0] + ", " + row[1] + ")", x, 3, 1, row[2], row[3]);
        }
    }

    private static void cursorInVersion5() {
        ZScreens x = new ZScreens(5, 10, 6);
        x.split(3);
        Checks.due("the lower pane is chosen", x.cursor(2, 2), 0);
        Checks.due("the lower pane is chosen, beyond", x.cursor(0, 99), 0);
        Checks.cursors("nothing is done", x, 1, 1, 1, 1);
        x.choose(1);
        Checks.due("cursor(2, 5)", x.cursor(2, 5), 1);
        int[][] beyond = {{0, 1}, {4, 1}, {1, 0}, {1, 11}, {-1, -1}, {Integer.MAX_VALUE, 1}};
        for (int[] row : beyond) {
            Checks.due("cursor(" + row[0] + ", " + row[1] + ")", x.cursor(row[0], row[1]), OUTSIDE);
        }
        Checks.cursors("refused", x, 1, 1, 2, 5);
        Checks.due("cursor(3, 10)", x.cursor(3, 10), 1);
        Checks.cursors("the last place", x, 1, 1, 3, 10);
    }

    private static void cursorRefusals() {
        for (int version = 1; version <= 3; version++) {
            ZScreens x = new ZScreens(version, 10, 6);
            x.split(2);
            x.choose(1);
            Checks.due("cursor(1, 2), version " + version, x.cursor(1, 2), STATE);
            Checks.due("cursor(0, 0), version " + version, x.cursor(0, 0), STATE);
            Checks.cursors("refused", x, version == 3 ? 3 : 5, 1, 1, 1);
        }
        ZScreens y = new ZScreens(5, 10, 6);
        Checks.tell(y, "ab");
        y.cursor(1, 1);
        Checks.due("cursor puts no word", y.told(11), 2);
    }

    private static ZScreens twoPanes(int version) {
        ZScreens x = new ZScreens(version, 8, 5);
        x.split(2);
        x.buffer(false);
        Checks.tell(x, "a\nb\nc\nd\ne");
        x.choose(1);
        Checks.tell(x, "up\nper");
        return x;
    }

    private static void erasePane() {
        ZScreens x = twoPanes(5);
        Checks.due("before", Checks.signs(x), "up|per|c|d|e");
        Checks.due("COUNT before", x.told(9), 0);
        Checks.due("erase(1)", x.erase(1), 1);
        Checks.due("erase(1)", Checks.signs(x), "||c|d|e");
        Checks.cursors("erase(1)", x, 3, 2, 1, 1);
        Checks.due("erase(1) keeps the choice", x.told(3), 1);
        Checks.tell(x, "x");
        Checks.due("erase(0)", x.erase(0), 1);
        Checks.due("erase(0)", Checks.signs(x), "x||||");
        Checks.cursors("erase(0)", x, 1, 1, 1, 2);
        Checks.due("erase(0) keeps the choice", x.told(3), 1);
        Checks.due("erase(0) keeps the height", x.told(2), 2);
    }

    private static void eraseBothAndAll() {
        ZScreens x = twoPanes(4);
        x.style(2);
        x.choose(0);
        Checks.tell(x, "\n");
        Checks.due("COUNT is 1", x.told(9), 1);
        x.erase(1);
        Checks.due("erase(1) keeps COUNT", x.told(9), 1);
        Checks.due("erase(-2)", x.erase(-2), 1);
        Checks.due("erase(-2)", Checks.signs(x), "||||");
        Checks.due("erase(-2) keeps the height", x.told(2), 2);
        Checks.due("erase(-2): COUNT", x.told(9), 0);
        Checks.cursors("erase(-2)", x, 3, 1, 1, 1);
        x.choose(1);
        x.cursor(2, 3);
        x.erase(-2);
        Checks.due("erase(-2) keeps the choice", x.told(3), 1);
        Checks.tell(x, "xy\nz");
        Checks.due("erase(-1)", x.erase(-1), 1);
        Checks.due("erase(-1)", Checks.signs(x), "||||");
        Checks.due("erase(-1): height", x.told(2), 0);
        Checks.due("erase(-1): the lower pane is chosen", x.told(3), 0);
        Checks.cursors("erase(-1), version 4", x, 5, 1, 1, 1);
        Checks.due("erase(-1) keeps MORE", x.told(10), 2);
        Checks.due("erase(-1) keeps NEW LINES", x.told(8), 5);
    }

    private static void eraseFirstPlaces() {
        ZScreens x = new ZScreens(5, 8, 5);
        x.colour(3, 4);
        x.style(1);
        x.font(4);
        Checks.tell(x, "a\n\n");
        x.erase(-1);
        Checks.cursors("erase(-1), version 5", x, 1, 1, 1, 1);
        Checks.due("BLANK: style", Checks.part(x, 1, 1), "00000000");
        Checks.due("BLANK: font", Checks.part(x, 1, 2), "11111111");
        Checks.due("BLANK: first colour", Checks.part(x, 5, 3), "33333333");
        Checks.due("BLANK: second colour", Checks.part(x, 5, 4), "44444444");
        Checks.due("erase keeps the style", x.told(12), 1);
        Checks.due("erase(1) with height 0", x.erase(1), 1);
    }

    private static void erasePutsTheWord() {
        ZScreens x = new ZScreens(5, 8, 3);
        Checks.tell(x, "aaaa bbbbb");
        Checks.due("erase(0)", x.erase(0), 1);
        Checks.due("the word came before", x.told(8), 1);
        Checks.due("COUNT is 0 behind it", x.told(9), 0);
        Checks.due("nothing is left", Checks.signs(x), "||");
        Checks.due("no word waits", x.told(11), 0);
        Checks.tell(x, "low");
        x.erase(1);
        Checks.due("erase(1) puts it, too", Checks.signs(x), "low||");
    }

    private static void eraseRefusals() {
        ZScreens x = new ZScreens(4, 8, 3);
        Checks.tell(x, "a");
        Checks.due("erase(-3)", x.erase(-3), OUTSIDE);
        Checks.due("erase(2)", x.erase(2), OUTSIDE);
        Checks.due("refused: the word waits", x.told(11), 1);
        for (int version = 1; version <= 3; version++) {
            ZScreens y = new ZScreens(version, 8, 3);
            Checks.tell(y, "a");
            Checks.due("erase(0), version " + version, y.erase(0), STATE);
            Checks.due("erase(-1), version " + version, y.erase(-1), STATE);
            Checks.due("erase(2), version " + version, y.erase(2), OUTSIDE);
            Checks.due("eraseLine(), version " + version, y.eraseLine(), STATE);
            Checks.due("refused: the word waits", y.told(11), 1);
        }
    }

    private static void eraseLineCells() {
        ZScreens x = new ZScreens(5, 8, 4);
        x.split(2);
        x.choose(1);
        Checks.tell(x, "abcdefghijklmnop");
        Checks.due("behind the last column", x.eraseLine(), 0);
        Checks.due("nothing is erased", Checks.signs(x), "abcdefgh|ijklmnop||");
        x.cursor(1, 8);
        Checks.due("the last column", x.eraseLine(), 1);
        x.colour(5, 6);
        x.style(4);
        x.cursor(2, 3);
        Checks.due("from column 3 on", x.eraseLine(), 6);
        Checks.due("the others stay", Checks.signs(x), "abcdefg|ij||");
        Checks.cursors("the cursor stays", x, 1, 1, 2, 3);
        Checks.due("BLANK: first colours", Checks.part(x, 2, 3), "22555555");
        Checks.due("BLANK: second colours", Checks.part(x, 2, 4), "99666666");
        Checks.due("BLANK: styles", Checks.part(x, 2, 1), "00000000");
        x.cursor(1, 1);
        Checks.due("a whole line", x.eraseLine(), 8);
    }

    private static void eraseLinePutsTheWord() {
        ZScreens x = new ZScreens(4, 8, 4);
        Checks.tell(x, "abc");
        Checks.due("eraseLine behind the word", x.eraseLine(), 5);
        Checks.due("the word is put", Checks.signs(x), "|||abc");
        Checks.tell(x, "defgh");
        Checks.due("eraseLine behind the last column", x.eraseLine(), 0);
        Checks.due("the word is put, too", Checks.signs(x), "|||abcdefgh");
    }
}
