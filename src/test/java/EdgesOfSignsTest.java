import java.util.function.ToIntFunction;

/** The boundary cases of the document's part 2 (signs), a method for each sentence. */
public final class EdgesOfSignsTest {
    private static final int OUTSIDE = ZScreens.OUTSIDE;

    public static void main(String[] args) {
        signsHaveTheLooksOfThen();
        upperGoesOnByOneColumn();
        upperBehindTheLastColumnInVersions3And4();
        upperBehindTheLastColumnInVersion5();
        upperBehindTheLastLine();
        upper13();
        upper13InTheLastLine();
        upperHasNoWord();
        bufferIsOnAtFirst();
        wordsWait();
        putBeforeA13();
        putBeforeA32();
        putWithWidthSigns();
        putFirstOfAll();
        putWhereTheCursorWas();
        notPutByOthers();
        putInColumnOne();
        putUpToTheLastColumn();
        putBeyondTheLastColumn();
        spaceBehindTheLastColumn();
        spaceInTheLastColumn();
        bufferOff();
        newLineBehindTheLastColumn();
        returnBehindTheLastColumn();
        newLineInTheMiddle();
        newLineInTheLastLine();
        newLineOfOneLine();
        othersDoNotScroll();
        countAndMore();
        countOneAtLeast();
        countOrMore();
        transcriptAsLongAsItIsOn();
        transcriptOfTheLower();
        transcriptWhenTold();
        transcriptOf500();
        Checks.finish();
    }

    private static void signsHaveTheLooksOfThen() {
        Checks.about("SIGNS come to the pane that is CHOSEN, with the STYLE, FONT, COLOURS as they are then");
        ZScreens x = new ZScreens(5, 8, 3);
        x.split(1);
        x.choose(1);
        x.style(15);
        x.font(4);
        x.colour(9, 3);
        Checks.tell(x, "~ ");
        x.style(0);
        x.font(1);
        x.colour(1, 1);
        x.sign('a');
        Checks.due("a sign", Checks.cell(x, 1, 1), "126 15 4 9 3");
        Checks.due("a 32", Checks.cell(x, 1, 2), "32 15 4 9 3");
        Checks.due("the next one", Checks.cell(x, 1, 3), "97 0 1 2 9");
        x.choose(0);
        x.style(2);
        x.sign('b');
        x.style(0);
        x.sign(' ');
        Checks.due("a sign of a word, as it was told", Checks.cell(x, 2, 1), "98 2 1 2 9");
        Checks.due("a 32 behind it", Checks.cell(x, 2, 2), "32 0 1 2 9");
    }

    private static ZScreens upper(int version, int height) {
        ZScreens x = new ZScreens(version, 8, 5);
        x.split(height);
        x.choose(1);
        return x;
    }

    private static String upperLine(ZScreens x, int version, int line) {
        return Checks.line(x, version == 3 ? line + 1 : line);
    }

    private static void upperPlace(String what, ZScreens x, int line, int column) {
        Checks.due(what + ": line", x.told(6), line);
        Checks.due(what + ": column", x.told(7), column);
    }

    private static void upperGoesOnByOneColumn() {
        Checks.about("UPPER: a SIGN comes to the CURSOR, which goes on by one column");
        for (int version = 3; version <= 8; version++) {
            ZScreens x = upper(version, 2);
            for (int column = 1; column <= 8; column++) {
                upperPlace("before", x, 1, column);
                Checks.due("no NEW LINE", x.sign('0' + column), 0);
            }
            upperPlace("behind the last column", x, 1, 9);
            Checks.due("signs", upperLine(x, version, 1), "12345678");
            Checks.due("the next line", upperLine(x, version, 2), "");
        }
    }

    private static void upperBehindTheLastColumnInVersions3And4() {
        Checks.about("where there is none (behind the last column) it is lost in VERSIONS 3 and 4");
        for (int version = 3; version <= 4; version++) {
            ZScreens x = upper(version, 2);
            Checks.tell(x, "12345678a b");
            upperPlace("it stays", x, 1, 9);
            Checks.due("signs", upperLine(x, version, 1), "12345678");
            Checks.due("the next line", upperLine(x, version, 2), "");
        }
    }

    private static void upperBehindTheLastColumnInVersion5() {
        Checks.about("in VERSION 5 + the CURSOR goes to column 1 of the next line first");
        for (int version = 5; version <= 8; version++) {
            ZScreens x = upper(version, 2);
            Checks.tell(x, "12345678");
            x.sign('a');
            upperPlace("one sign more", x, 2, 2);
            Checks.due("signs", Checks.signs(x), "12345678|a|||");
            ZScreens y = upper(version, 2);
            Checks.tell(y, "12345678 ");
            upperPlace("a 32 as well", y, 2, 2);
        }
    }

    private static void upperBehindTheLastLine() {
        Checks.about("behind the last line it is lost");
        for (int version = 5; version <= 8; version++) {
            for (int height = 1; height <= 3; height++) {
                ZScreens x = upper(version, height);
                x.cursor(height, 1);
                Checks.tell(x, "12345678");
                String before = Checks.cells(x);
                Checks.tell(x, "a b");
                upperPlace("it stays", x, height, 9);
                Checks.due("no cell changes", Checks.cells(x), before);
            }
        }
    }

    private static void upper13() {
        Checks.about("13: the CURSOR goes to column 1 of the next line");
        for (int version = 3; version <= 8; version++) {
            ZScreens x = upper(version, 3);
            Checks.tell(x, "12345678\n");
            upperPlace("from behind the last column", x, 2, 1);
            Checks.tell(x, "abc\n");
            upperPlace("from the middle", x, 3, 1);
            ZScreens y = upper(version, 3);
            y.sign(13);
            upperPlace("from column 1", y, 2, 1);
            Checks.due("no NEW LINE", y.told(8), 0);
            Checks.due("COUNT", y.told(9), 0);
        }
    }

    private static void upper13InTheLastLine() {
        Checks.about("in the last line to column 1 of that");
        for (int version = 3; version <= 8; version++) {
            for (int height = 1; height <= 2; height++) {
                ZScreens x = upper(version, height);
                Checks.tell(x, height == 2 ? "up\nabc" : "abc");
                x.sign(13);
                upperPlace("from the middle", x, height, 1);
                Checks.tell(x, "12345678");
                Checks.due("no NEW LINE", x.sign(13), 0);
                upperPlace("from behind the last column", x, height, 1);
                x.sign(13);
                upperPlace("again", x, height, 1);
                Checks.due("nothing scrolls", upperLine(x, version, height), "12345678");
                Checks.due("the first line", upperLine(x, version, 1), height == 2 ? "up" : "12345678");
            }
        }
    }

    private static void upperHasNoWord() {
        Checks.about("LOWER, as long as BUFFER is on: SIGNS .. are a WORD, that waits");
        ZScreens x = upper(5, 2);
        Checks.tell(x, "ab");
        Checks.due("none waits in the UPPER pane", x.told(11), 0);
        Checks.due("it is there at once", Checks.signs(x), "ab||||");
    }

    private static void bufferIsOnAtFirst() {
        Checks.about("as long as BUFFER is on (as at first)");
        for (int version = 1; version <= 8; version++) {
            Checks.due("buffer(false)", new ZScreens(version, 8, 3).buffer(false), 1);
        }
    }

    private static void wordsWait() {
        Checks.about("SIGNS but 13 and 32 are a WORD, that waits");
        int[] signs = {33, 45, 46, 64, 65, 122, 126};
        for (int c : signs) {
            ZScreens x = new ZScreens(5, 8, 3);
            x.sign(c);
            Checks.due("sign(" + c + ") waits", x.told(11), 1);
            Checks.due("its cell", x.cell(1, 1, 0), 32);
            Checks.cursors("the cursor", x, 1, 1, 1, 1);
        }
        ZScreens x = new ZScreens(5, 8, 3);
        x.sign(13);
        x.sign(32);
        Checks.due("13 and 32 do not wait", x.told(11), 0);
        Checks.cursors("the cursor", x, 2, 2, 1, 1);
    }

    private static void putBeforeA13() {
        Checks.about("It is PUT before a 13");
        ZScreens x = new ZScreens(5, 8, 4);
        Checks.due("a word that fits: one NEW LINE", Checks.tell(x, "12345 \n"), 1);
        Checks.tell(x, "12345 678");
        Checks.due("a word that does not: two", x.sign(13), 3);
        Checks.due("signs", Checks.signs(x), "12345|12345|678|");
    }

    private static void putBeforeA32() {
        Checks.about("It is PUT before .. a 32 comes");
        ZScreens x = new ZScreens(5, 8, 4);
        Checks.tell(x, "ab");
        x.sign(32);
        Checks.due("none waits", x.told(11), 0);
        Checks.due("signs", Checks.signs(x), "ab|||");
        Checks.cursors("the 32 comes, too", x, 1, 4, 1, 1);
    }

    private static void putWithWidthSigns() {
        Checks.about("as soon as it has WIDTH SIGNS");
        int[] widths = {8, 9, 80};
        for (int width : widths) {
            ZScreens x = new ZScreens(5, width, 4);
            Checks.tell(x, "x".repeat(width - 1));
            Checks.due("one less waits", x.told(11), width - 1);
            Checks.due("no NEW LINE", x.sign('y'), 0);
            Checks.due("WIDTH signs do not", x.told(11), 0);
            Checks.cursors("behind the last column", x, 1, width + 1, 1, 1);
            Checks.due("the last one", x.cell(1, width, 0), 'y');
            Checks.tell(x, "x".repeat(width - 1));
            Checks.due("again one less waits", x.told(11), width - 1);
            Checks.due("then a NEW LINE", x.sign('y'), 1);
            Checks.cursors("behind the last column of the next line", x, 2, width + 1, 1, 1);
        }
        ZScreens y = new ZScreens(5, 8, 4);
        y.size(10, 4);
        Checks.tell(y, "123456789");
        Checks.due("the WIDTH of now", y.told(11), 9);
        y.size(8, 4);
        y.erase(0);
        Checks.tell(y, "12345678");
        Checks.due("the WIDTH of now, narrower", y.told(11), 0);
    }

    private static void isPutBy(String call, int version, ToIntFunction<ZScreens> made) {
        ZScreens x = new ZScreens(version, 8, 4);
        x.split(1);
        Checks.tell(x, "ab");
        Checks.due("a word waits ahead of " + call, x.told(11), 2);
        made.applyAsInt(x);
        Checks.due("none behind " + call, x.told(11), 0);
    }

    private static void putFirstOfAll() {
        Checks.about("and first of all by split(), choose(), erase(), eraseLine(), buffer(), read(), size()");
        for (int version = 1; version <= 8; version++) {
            if (version >= 3) {
                isPutBy("split(0)", version, x -> x.split(0));
                isPutBy("split(1)", version, x -> x.split(1));
                isPutBy("choose(0)", version, x -> x.choose(0));
                isPutBy("choose(1)", version, x -> x.choose(1));
            }
            if (version >= 4) {
                for (int pane = -2; pane <= 1; pane++) {
                    int which = pane;
                    isPutBy("erase(" + pane + ")", version, x -> x.erase(which));
                }
                isPutBy("eraseLine()", version, x -> x.eraseLine());
            }
            isPutBy("buffer(true)", version, x -> x.buffer(true));
            isPutBy("buffer(false)", version, x -> x.buffer(false));
            isPutBy("read()", version, x -> x.read());
            isPutBy("size(8, 4)", version, x -> x.size(8, 4));
        }
    }

    private static ZScreens withAWordBeyond() {
        ZScreens x = new ZScreens(5, 8, 4);
        Checks.tell(x, "12345 678");
        Checks.due("no NEW LINE yet", x.told(8), 0);
        return x;
    }

    private static void putWhereTheCursorWas() {
        Checks.about("PUT .. first of all by split(), choose(), erase(), eraseLine(), buffer(), read(), size()");
        ZScreens x = withAWordBeyond();
        x.split(1);
        Checks.due("split: in the line that was next", Checks.signs(x), "12345|678||");
        Checks.cursors("split: the cursor stays behind it", x, 1, 4, 1, 1);
        x = withAWordBeyond();
        x.choose(0);
        Checks.due("choose: NEW LINES", x.told(8), 1);
        x = withAWordBeyond();
        x.erase(0);
        Checks.due("erase: NEW LINES", x.told(8), 1);
        Checks.due("erase: COUNT is 0 behind it", x.told(9), 0);
        Checks.due("erase: it is gone", Checks.signs(x), "|||");
        Checks.cursors("erase: the cursor", x, 1, 1, 1, 1);
        x = withAWordBeyond();
        Checks.due("eraseLine: the cells behind it", x.eraseLine(), 5);
        Checks.due("eraseLine: it stays", Checks.signs(x), "12345|678||");
        x = withAWordBeyond();
        x.buffer(false);
        Checks.due("buffer: it is whole", Checks.signs(x), "12345|678||");
        x = withAWordBeyond();
        Checks.due("read: its NEW LINE is in COUNT", x.read(), 1);
        Checks.due("read: COUNT is 0 behind it", x.told(9), 0);
        x = withAWordBeyond();
        x.size(20, 4);
        Checks.due("size: the WIDTH that was", Checks.signs(x), "12345|678||");
        Checks.due("size: COUNT is 0 behind it", x.told(9), 0);
    }

    private static void notPutByOthers() {
        Checks.about("first of all by split(), choose(), erase(), eraseLine(), buffer(), read(), size(): no other");
        for (int version = 1; version <= 8; version++) {
            ZScreens x = new ZScreens(version, 8, 4);
            Checks.tell(x, "ab");
            x.cursor(1, 1);
            x.style(1);
            x.colour(3, 4);
            x.font(3);
            x.font(0);
            x.name(65);
            x.status(0, 1, 2);
            x.status(1, 1, 2);
            x.transcript(true);
            x.written(-1);
            x.cell(1, 1, 0);
            x.told(0);
            Checks.due("it waits, version " + version, x.told(11), 2);
        }
    }

    private static void putInColumnOne() {
        Checks.about("PUT: if the CURSOR is not in column 1: in column 1 no NEW LINE comes");
        ZScreens x = new ZScreens(5, 8, 4);
        Checks.due("WIDTH signs", Checks.tell(x, "12345678"), 0);
        Checks.due("signs", Checks.signs(x), "12345678|||");
        ZScreens y = new ZScreens(5, 8, 4);
        Checks.due("WIDTH signs behind a 32", Checks.tell(y, " 12345678"), 1);
        Checks.due("signs", Checks.signs(y), "|12345678||");
    }

    private static void putUpToTheLastColumn() {
        Checks.about("and the WORD would go beyond the last column: up to it no NEW LINE comes");
        ZScreens x = new ZScreens(5, 8, 4);
        Checks.due("its last sign in the last column", Checks.tell(x, "abc 5678 "), 0);
        Checks.due("signs", Checks.signs(x), "abc 5678|||");
        Checks.cursors("behind it", x, 1, 9, 1, 1);
        ZScreens y = new ZScreens(5, 8, 4);
        Checks.due("one sign in the last column", Checks.tell(y, "123456 8 "), 0);
        Checks.due("signs", Checks.signs(y), "123456 8|||");
    }

    private static void putBeyondTheLastColumn() {
        Checks.about("and the WORD would go beyond the last column, a NEW LINE comes first; then SIGN by SIGN");
        ZScreens x = new ZScreens(5, 8, 4);
        Checks.due("beyond it by one", Checks.tell(x, "abc 56789 "), 1);
        Checks.due("signs", Checks.signs(x), "abc|56789||");
        Checks.cursors("behind it and a 32", x, 2, 7, 1, 1);
        ZScreens y = new ZScreens(5, 8, 4);
        Checks.due("one sign behind the last column", Checks.tell(y, "1234567 9 "), 1);
        Checks.due("signs", Checks.signs(y), "1234567|9||");
    }

    private static void spaceBehindTheLastColumn() {
        Checks.about("A 32 behind the last column is lost");
        ZScreens x = new ZScreens(5, 8, 4);
        x.transcript(true);
        Checks.due("no NEW LINE", Checks.tell(x, "12345678  "), 0);
        Checks.cursors("the cursor stays", x, 1, 9, 1, 1);
        Checks.due("the next line", Checks.line(x, 2), "");
        Checks.due("THE TRANSCRIPT has it", x.written(-1), 10);
        Checks.due("a word goes to column 1 then", Checks.tell(x, "a "), 1);
        Checks.due("signs", Checks.signs(x), "12345678|a||");
    }

    private static void spaceInTheLastColumn() {
        Checks.about("A 32 behind the last column is lost: in the last column it is not");
        ZScreens x = new ZScreens(5, 8, 4);
        x.style(1);
        Checks.tell(x, "1234567 ");
        Checks.due("its style", x.cell(1, 8, 1), 1);
        Checks.cursors("the cursor", x, 1, 9, 1, 1);
    }

    private static void bufferOff() {
        Checks.about("When BUFFER is off, SIGNS come one by one");
        ZScreens x = new ZScreens(5, 8, 4);
        x.buffer(false);
        x.sign('a');
        Checks.due("none waits", x.told(11), 0);
        Checks.cursors("the cursor", x, 1, 2, 1, 1);
        Checks.tell(x, " 3456789");
        Checks.due("words break", Checks.signs(x), "a 345678|9||");
        ZScreens y = new ZScreens(5, 8, 4);
        y.buffer(false);
        Checks.due("a 32 behind the last column is not lost", Checks.tell(y, "12345678 "), 1);
        Checks.cursors("it has a cell", y, 2, 2, 1, 1);
        y.buffer(true);
        y.sign('b');
        Checks.due("on again: it waits", y.told(11), 1);
    }

    private static void newLineBehindTheLastColumn() {
        Checks.about("One by one: behind the last column a NEW LINE comes first");
        ZScreens x = new ZScreens(5, 8, 4);
        x.buffer(false);
        Checks.due("in the last column none comes", Checks.tell(x, "12345678"), 0);
        Checks.cursors("behind it", x, 1, 9, 1, 1);
        Checks.due("behind it one comes", x.sign('9'), 1);
        Checks.cursors("column 2 of the next line", x, 2, 2, 1, 1);
        Checks.due("the sign", x.cell(2, 1, 0), '9');
    }

    private static void returnBehindTheLastColumn() {
        Checks.about("13 is a NEW LINE");
        for (int i = 0; i <= 1; i++) {
            ZScreens x = new ZScreens(5, 8, 4);
            x.buffer(i == 0);
            Checks.tell(x, "12345678");
            Checks.due("one, behind the last column, too", x.sign(13), 1);
            Checks.cursors("column 1 of the next line", x, 2, 1, 1, 1);
            Checks.due("one, in column 1, too", x.sign(13), 2);
            Checks.cursors("the line after", x, 3, 1, 1, 1);
        }
    }

    private static void newLineInTheMiddle() {
        Checks.about("A NEW LINE: the CURSOR goes to column 1 of the next line");
        ZScreens x = new ZScreens(5, 8, 4);
        Checks.tell(x, "a\nb\nc\n");
        Checks.cursors("in the last line now", x, 4, 1, 1, 1);
        Checks.due("nothing scrolls", Checks.signs(x), "a|b|c|");
    }

    private static void newLineInTheLastLine() {
        Checks.about("in the last one the pane SCROLLS: its first line is gone, the others go up, the last is BLANK");
        ZScreens x = new ZScreens(5, 8, 3);
        x.style(3);
        x.font(4);
        x.colour(5, 6);
        Checks.tell(x, "a\nb\n12345678");
        x.colour(7, 8);
        Checks.due("NEW LINES", x.sign(13), 3);
        Checks.due("signs", Checks.signs(x), "b|12345678|");
        Checks.due("looks go up", Checks.cell(x, 2, 8), "56 3 4 5 6");
        Checks.due("the last line, column 1", Checks.cell(x, 3, 1), "32 0 1 7 8");
        Checks.due("the last line, column 8", Checks.cell(x, 3, 8), "32 0 1 7 8");
        Checks.cursors("column 1 of the last line", x, 3, 1, 1, 1);
    }

    private static void newLineOfOneLine() {
        Checks.about("the pane SCROLLS: a pane of one line");
        ZScreens x = new ZScreens(5, 8, 3);
        x.split(2);
        Checks.tell(x, "ab");
        x.sign(13);
        Checks.due("signs", Checks.signs(x), "||");
        Checks.cursors("the cursor", x, 1, 1, 1, 1);
    }

    private static void othersDoNotScroll() {
        Checks.about("its first line is gone: not THE STATUS LINE, nor the UPPER pane's");
        for (int version = 3; version <= 4; version++) {
            ZScreens x = new ZScreens(version, 8, 5);
            x.status(0, 1, 2);
            x.split(2);
            x.choose(1);
            Checks.tell(x, "u\nv");
            x.choose(0);
            Checks.tell(x, "a\nb\nc\n");
            Checks.due("version " + version, Checks.signs(x), version == 3 ? "    1/2|u|v|c|" : "u|v|b|c|");
        }
    }

    private static void countAndMore() {
        Checks.about("COUNT is 1 more; when it is the LOWER pane's lines less 1 .. MORE is 1 more, COUNT 0");
        for (int version = 1; version <= 8; version++) {
            for (int lines = 4; lines <= 40; lines += 36) {
                ZScreens x = new ZScreens(version, 8, lines);
                int most = version <= 3 ? lines - 2 : lines - 1;
                for (int i = 1; i <= 2 * most; i++) {
                    Checks.due("NEW LINES", x.sign(13), i);
                    Checks.due("COUNT", x.told(9), i % most);
                    Checks.due("MORE", x.told(10), i / most);
                }
            }
        }
    }

    private static void countOneAtLeast() {
        Checks.about("the LOWER pane's lines less 1 (1 at least)");
        for (int version = 3; version <= 8; version++) {
            for (int left = 1; left <= 2; left++) {
                ZScreens x = new ZScreens(version, 8, 6);
                x.split((version == 3 ? 5 : 6) - left);
                for (int i = 1; i <= 3; i++) {
                    x.sign(13);
                    Checks.due("MORE with " + left + " lines", x.told(10), i);
                    Checks.due("COUNT", x.told(9), 0);
                }
            }
        }
    }

    private static void countOrMore() {
        Checks.about("or more, one has to wait");
        for (int version = 4; version <= 8; version++) {
            ZScreens x = new ZScreens(version, 8, 8);
            Checks.tell(x, "\n\n\n\n\n");
            x.split(5);
            Checks.due("split does not wait", x.told(10), 0);
            Checks.due("split keeps COUNT", x.told(9), 5);
            x.sign(13);
            Checks.due("MORE: 6 is more than 2", x.told(10), 1);
            Checks.due("COUNT", x.told(9), 0);
            x.sign(13);
            Checks.due("COUNT goes on", x.told(9), 1);
            x.split(0);
            x.sign(13);
            Checks.due("2 is less than 7", x.told(10), 1);
        }
    }

    private static void transcriptAsLongAsItIsOn() {
        Checks.about("THE TRANSCRIPT, as long as it is on");
        ZScreens x = new ZScreens(5, 8, 4);
        x.sign('a');
        Checks.due("off at first", x.written(-1), 0);
        x.transcript(true);
        x.sign('b');
        x.transcript(false);
        x.sign('c');
        Checks.due("one, of a word of three", x.written(-1), 1);
        x.sign(' ');
        Checks.due("none when the word is PUT", x.written(-1), 1);
        x.transcript(true);
        x.sign('d');
        Checks.due("it goes on behind", x.written(1), 'd');
        Checks.due("the first one", x.written(0), 'b');
    }

    private static void transcriptOfTheLower() {
        Checks.about("each SIGN that is told to the LOWER pane (13, too) comes behind it");
        ZScreens x = new ZScreens(5, 8, 4);
        x.split(1);
        x.transcript(true);
        Checks.tell(x, "a\n ");
        x.choose(1);
        Checks.tell(x, "up\n ");
        x.choose(0);
        x.sign(12);
        x.sign(127);
        x.buffer(false);
        Checks.tell(x, "z");
        int[] want = {97, 13, 32, 122};
        Checks.due("how many", x.written(-1), want.length);
        for (int i = 0; i < want.length; i++) {
            Checks.due("written(" + i + ")", x.written(i), want[i]);
        }
    }

    private static void transcriptWhenTold() {
        Checks.about("comes behind it, when it is told");
        ZScreens x = new ZScreens(5, 8, 4);
        x.transcript(true);
        x.sign('a');
        Checks.due("while its word waits", x.written(0), 'a');
        x.read();
        Checks.due("not once more", x.written(-1), 1);
        Checks.tell(x, " bbbbbbb c ");
        Checks.due("no sign for a NEW LINE of a word", x.written(-1), 12);
    }

    private static void transcriptOf500() {
        Checks.about("500 at most, others do not");
        ZScreens x = new ZScreens(5, 8, 4);
        x.transcript(true);
        for (int i = 1; i <= 499; i++) {
            x.sign(65 + i % 2);
        }
        Checks.due("499", x.written(-1), 499);
        x.sign('y');
        Checks.due("500", x.written(-1), 500);
        x.sign('z');
        Checks.due("500 still", x.written(-1), 500);
        Checks.due("the last one", x.written(499), 'y');
        Checks.due("no other", x.written(500), OUTSIDE);
        Checks.due("the sign is told, though", x.told(11), 501 % 8);
    }
}
