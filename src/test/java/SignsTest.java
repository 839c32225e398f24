/** Promises 5, 11, 14, 15, 16: sign, buffer, read, transcript, written. */
public final class SignsTest {
    private static final int OUTSIDE = ZScreens.OUTSIDE;

    public static void main(String[] args) {
        bounds();
        wordsWrapWhole();
        wordsOfWidth();
        wordsOfWidthFromColumn2();
        spaces();
        returns();
        unbuffered();
        bufferAnswers();
        scrolling();
        scrollingBelowAPane();
        scrollingTheLargest();
        blankLinesAndColours();
        waiting();
        waitingInOneLine();
        waitingAfterSplit();
        reading();
        upperInVersion4();
        upperInVersion5();
        upperCountsNoNewLines();
        wordsKeepTheirLooks();
        transcript();
        transcriptIsFull();
        Checks.finish();
    }

    private static void bounds() {
        for (int version = 1; version <= 8; version++) {
            ZScreens x = new ZScreens(version, 8, 3);
            int[] wrong = {-1, 0, 10, 12, 14, 31, 127, 128, 255, Integer.MAX_VALUE, Integer.MIN_VALUE};
            for (int c : wrong) {
                Checks.due("sign(" + c + ")", x.sign(c), OUTSIDE);
            }
            Checks.due("nothing waits", x.told(11), 0);
            Checks.due("sign(33)", x.sign(33), 0);
            Checks.due("sign(126)", x.sign(126), 0);
            Checks.due("two wait", x.told(11), 2);
            Checks.due("sign(32)", x.sign(32), 0);
            Checks.due("sign(13)", x.sign(13), 1);
            Checks.due("told(8)", x.told(8), 1);
        }
    }

    private static void wordsWrapWhole() {
        ZScreens x = new ZScreens(5, 10, 4);
        Checks.due("a word waits", Checks.tell(x, "one two thr"), 0);
        Checks.due("its signs", x.told(11), 3);
        Checks.due("it is not there yet", Checks.signs(x), "one two|||");
        Checks.due("a 32 puts it", Checks.tell(x, "ee "), 1);
        Checks.due("whole", Checks.signs(x), "one two|three||");
        Checks.cursors("behind the 32", x, 2, 7, 1, 1);
        Checks.due("a word that just fits", Checks.tell(x, "four "), 1);
        Checks.due("in the last columns", Checks.signs(x), "one two|three four||");
        Checks.cursors("the 32 behind it is lost", x, 2, 11, 1, 1);
        Checks.due("a word from there on", Checks.tell(x, "x\n"), 3);
        Checks.due("a new line ahead of it and one behind", Checks.signs(x), "one two|three four|x|");
    }

    private static void wordsOfWidth() {
        ZScreens x = new ZScreens(5, 8, 4);
        Checks.due("seven signs wait", Checks.tell(x, "abcdefg"), 0);
        Checks.due("seven", x.told(11), 7);
        Checks.due("the eighth puts them", Checks.tell(x, "h"), 0);
        Checks.due("none waits", x.told(11), 0);
        Checks.cursors("behind the last column", x, 1, 9, 1, 1);
        Checks.due("eight more", Checks.tell(x, "ijklmnop"), 1);
        Checks.due("as it has WIDTH signs", Checks.signs(x), "abcdefgh|ijklmnop||");
        Checks.due("a 13 then", Checks.tell(x, "\n"), 2);
        Checks.cursors("one line on", x, 3, 1, 1, 1);
    }

    private static void wordsOfWidthFromColumn2() {
        ZScreens x = new ZScreens(5, 8, 4);
        Checks.due("a 32 and eight signs", Checks.tell(x, " abcdefgh"), 1);
        Checks.due("whole, in the next line", Checks.signs(x), "|abcdefgh||");
        ZScreens y = new ZScreens(5, 8, 4);
        Checks.due("a 32 and seven signs", Checks.tell(y, " abcdefg "), 0);
        Checks.due("whole, in that line", Checks.signs(y), " abcdefg|||");
    }

    private static void spaces() {
        ZScreens x = new ZScreens(5, 8, 4);
        Checks.due("eight 32", Checks.tell(x, "        "), 0);
        Checks.cursors("behind the last column", x, 1, 9, 1, 1);
        Checks.due("one more is lost", Checks.tell(x, " "), 0);
        Checks.cursors("still there", x, 1, 9, 1, 1);
        x.buffer(false);
        Checks.due("with BUFFER off it is not lost", Checks.tell(x, " "), 1);
        Checks.cursors("a new line and a 32", x, 2, 2, 1, 1);
    }

    private static void returns() {
        ZScreens x = new ZScreens(4, 8, 4);
        Checks.due("a word and a 13", Checks.tell(x, "ab\n"), 1);
        Checks.due("the pane scrolls", Checks.signs(x), "||ab|");
        Checks.cursors("the last line", x, 4, 1, 1, 1);
        Checks.tell(x, "abcdef gh\n");
        Checks.due("the word goes ahead of the 13", Checks.signs(x), "ab|abcdef|gh|");
    }

    private static void unbuffered() {
        ZScreens x = new ZScreens(5, 8, 4);
        x.buffer(false);
        Checks.due("one by one", Checks.tell(x, "one two th"), 1);
        Checks.due("words break", Checks.signs(x), "one two|th||");
        Checks.due("none waits", x.told(11), 0);
        Checks.tell(x, "ree45");
        Checks.due("behind the last column no new line yet", Checks.tell(x, "6"), 1);
        Checks.cursors("behind the last column", x, 2, 9, 1, 1);
        Checks.due("a 13 is one new line there", Checks.tell(x, "\n"), 2);
        Checks.cursors("one line on", x, 3, 1, 1, 1);
        Checks.due("signs", Checks.signs(x), "one two|three456||");
    }

    private static void bufferAnswers() {
        ZScreens x = new ZScreens(1, 8, 4);
        Checks.tell(x, "ab");
        Checks.due("buffer(true)", x.buffer(true), 1);
        Checks.due("it puts the word", x.told(11), 0);
        Checks.tell(x, "cd");
        Checks.due("buffer(false)", x.buffer(false), 1);
        Checks.due("it puts the word, too", x.told(5), 5);
        Checks.due("buffer(false) again", x.buffer(false), 0);
        Checks.due("buffer(true) again", x.buffer(true), 0);
        Checks.due("and once more", x.buffer(true), 1);
        Checks.due("both parts", Checks.signs(x), "|||abcd");
    }

    private static void scrolling() {
        ZScreens x = new ZScreens(5, 8, 3);
        x.style(2);
        Checks.tell(x, "a\nb\nc\nd");
        x.read();
        Checks.due("the first line is gone", Checks.signs(x), "b|c|d");
        Checks.due("styles go up, too", Checks.part(x, 2, 1), "20000000");
        ZScreens y = new ZScreens(2, 8, 4);
        y.status(0, 5, 6);
        Checks.tell(y, "a\nb\nc\nd\n");
        Checks.due("the status line stays", Checks.signs(y), "    5/6|c|d|");
    }

    private static void scrollingBelowAPane() {
        ZScreens x = new ZScreens(5, 8, 4);
        x.split(2);
        x.choose(1);
        Checks.tell(x, "up\nper");
        x.choose(0);
        Checks.tell(x, "a\nb\nc\n");
        Checks.due("the upper pane stays", Checks.signs(x), "up|per|c|");
    }

    private static void scrollingTheLargest() {
        ZScreens x = new ZScreens(4, 80, 40);
        Checks.tell(x, "a\nb ");
        Checks.due("the last line", x.cell(40, 1, 0), 'b');
        Checks.due("the one above", x.cell(39, 1, 0), 'a');
        Checks.due("the one above that", x.cell(38, 1, 0), 32);
        Checks.tell(x, "\n" + "x".repeat(80));
        Checks.due("the last cell", x.cell(40, 80, 0), 'x');
    }

    private static void blankLinesAndColours() {
        ZScreens x = new ZScreens(5, 8, 3);
        x.colour(4, 5);
        x.style(8);
        x.font(3);
        Checks.tell(x, "\n\n\n");
        Checks.due("first colours, an old line", Checks.part(x, 2, 3), "22222222");
        Checks.due("first colours, the new one", Checks.part(x, 3, 3), "44444444");
        Checks.due("second colours, the new one", Checks.part(x, 3, 4), "55555555");
        Checks.due("style of a BLANK line", Checks.part(x, 3, 1), "00000000");
        Checks.due("font of a BLANK line", Checks.part(x, 3, 2), "11111111");
    }

    private static void waiting() {
        ZScreens x = new ZScreens(5, 8, 4);
        int[][] rows = {{1, 0}, {2, 0}, {0, 1}, {1, 1}, {2, 1}, {0, 2}};
        for (int i = 0; i < rows.length; i++) {
            Checks.due("new lines in all", x.sign(13), i + 1);
            Checks.due("COUNT", x.told(9), rows[i][0]);
            Checks.due("MORE", x.told(10), rows[i][1]);
        }
        ZScreens y = new ZScreens(3, 8, 4);
        Checks.tell(y, "\n");
        Checks.due("version 3: the status line does not count", y.told(9), 1);
        Checks.tell(y, "\n");
        Checks.due("version 3: MORE", y.told(10), 1);
    }

    private static void waitingInOneLine() {
        ZScreens x = new ZScreens(5, 8, 4);
        x.split(3);
        Checks.tell(x, "\n");
        Checks.due("one line: MORE", x.told(10), 1);
        Checks.due("one line: COUNT", x.told(9), 0);
        x.split(2);
        Checks.tell(x, "\n");
        Checks.due("two lines: MORE", x.told(10), 2);
    }

    private static void waitingAfterSplit() {
        ZScreens x = new ZScreens(5, 8, 6);
        Checks.tell(x, "\n\n\n\n");
        Checks.due("COUNT", x.told(9), 4);
        x.split(4);
        Checks.due("split keeps COUNT", x.told(9), 4);
        Checks.tell(x, "\n");
        Checks.due("5 is more than 1", x.told(10), 1);
        Checks.due("COUNT is 0 then", x.told(9), 0);
    }

    private static void reading() {
        ZScreens x = new ZScreens(6, 8, 5);
        Checks.due("nothing yet", x.read(), 0);
        Checks.tell(x, "a\nbcdef gh");
        Checks.due("COUNT before the word", x.told(9), 1);
        Checks.due("the word is put first", x.read(), 1);
        Checks.tell(x, "\nabcdef ghi");
        Checks.due("its new line counts", x.read(), 2);
        Checks.due("COUNT is 0", x.told(9), 0);
        Checks.due("again", x.read(), 0);
        Checks.due("MORE", x.told(10), 0);
        Checks.due("NEW LINES", x.told(8), 3);
    }

    private static void upperInVersion4() {
        for (int version = 3; version <= 4; version++) {
            ZScreens x = new ZScreens(version, 8, 5);
            x.split(2);
            x.choose(1);
            Checks.tell(x, "one word more");
            Checks.cursors("behind the last column", x, version == 4 ? 3 : 2, 1, 1, 9);
            Checks.tell(x, "\nxy\nz");
            Checks.cursors("in the last line", x, version == 4 ? 3 : 2, 1, 2, 2);
            int first = version == 3 ? 2 : 1;
            Checks.due("what is behind is lost", Checks.line(x, first), "one word");
            Checks.due("13 in the last line", Checks.line(x, first + 1), "zy");
            Checks.due("below", Checks.line(x, first + 2), "");
        }
    }

    private static void upperInVersion5() {
        ZScreens x = new ZScreens(5, 8, 5);
        x.split(2);
        x.choose(1);
        Checks.tell(x, "one word");
        Checks.cursors("behind the last column", x, 1, 1, 1, 9);
        Checks.tell(x, " m");
        Checks.due("it goes on, the 32 too", Checks.signs(x), "one word| m|||");
        Checks.tell(x, "uch more");
        Checks.cursors("behind the last line", x, 1, 1, 2, 9);
        Checks.due("the others are lost", Checks.signs(x), "one word| much mo|||");
        Checks.tell(x, "\nX");
        Checks.due("13 in the last line", Checks.signs(x), "one word|Xmuch mo|||");
        Checks.cursors("column 1 and on", x, 1, 1, 2, 2);
    }

    private static void upperCountsNoNewLines() {
        ZScreens x = new ZScreens(5, 8, 5);
        x.split(2);
        x.choose(1);
        Checks.due("upper 13", Checks.tell(x, "\n\n\n"), 0);
        Checks.due("COUNT", x.told(9), 0);
        Checks.due("MORE", x.told(10), 0);
        Checks.tell(x, "abc");
        Checks.due("no word waits there", x.told(11), 0);
    }

    private static void wordsKeepTheirLooks() {
        ZScreens x = new ZScreens(5, 8, 3);
        Checks.tell(x, "ab");
        x.style(4);
        x.colour(7, 8);
        Checks.tell(x, "c");
        x.font(4);
        Checks.tell(x, "d");
        x.style(0);
        Checks.due("none of these puts the word", x.told(11), 4);
        Checks.tell(x, " ");
        Checks.due("styles", Checks.part(x, 1, 1), "00440000");
        Checks.due("fonts", Checks.part(x, 1, 2), "11144111");
        Checks.due("first colours", Checks.part(x, 1, 3), "22777222");
        Checks.due("second colours", Checks.part(x, 1, 4), "99888999");
    }

    private static void transcript() {
        ZScreens x = new ZScreens(5, 8, 4);
        Checks.tell(x, "no");
        Checks.due("transcript(true)", x.transcript(true), 0);
        Checks.due("it puts no word", x.told(11), 2);
        Checks.tell(x, "w \n");
        x.sign(7);
        x.split(2);
        x.choose(1);
        Checks.tell(x, "up\n");
        x.choose(0);
        Checks.due("transcript(true) again", x.transcript(true), 1);
        Checks.tell(x, "12345678 9");
        Checks.due("transcript(false)", x.transcript(false), 1);
        Checks.tell(x, "off");
        Checks.due("transcript(false) again", x.transcript(false), 0);
        x.transcript(true);
        Checks.tell(x, "!");
        String want = "w \r12345678 9!";
        Checks.due("how many", x.written(-1), want.length());
        for (int i = 0; i < want.length(); i++) {
            Checks.due("written(" + i + ")", x.written(i), want.charAt(i));
        }
        Checks.due("behind the last one", x.written(want.length()), OUTSIDE);
        Checks.due("written(-2)", x.written(-2), OUTSIDE);
        Checks.due("the largest", x.written(Integer.MAX_VALUE), OUTSIDE);
        Checks.due("the least", x.written(Integer.MIN_VALUE), OUTSIDE);
        Checks.due("an empty one", new ZScreens(1, 8, 3).written(0), OUTSIDE);
    }

    private static void transcriptIsFull() {
        ZScreens x = new ZScreens(1, 8, 4);
        x.transcript(true);
        for (int i = 0; i < 500; i++) {
            x.sign(i == 499 ? 122 : 65 + i % 26);
        }
        Checks.due("500", x.written(-1), 500);
        x.sign(33);
        x.sign(13);
        Checks.due("500 at most", x.written(-1), 500);
        Checks.due("the first", x.written(0), 65);
        Checks.due("the last", x.written(499), 122);
        Checks.due("no other", x.written(500), OUTSIDE);
    }
}
