/** What every test here uses: answers that are due, texts told sign by sign, whole screens compared. */
final class Checks {
    private static int wrong = 0;
    private static String sentence = "";

    private Checks() {
    }

    /** The document's sentence that is looked at from here on; told with each wrong answer. */
    static void about(String words) {
        sentence = words;
    }

    static void due(String what, long got, long want) {
        if (got != want) {
            tellWrong(what + " answered " + got + ", due is " + want);
        }
    }

    static void due(String what, String got, String want) {
        if (!got.equals(want)) {
            tellWrong(what + " is\n" + got + "\ndue is\n" + want);
        }
    }

    private static void tellWrong(String text) {
        wrong++;
        System.out.println(sentence.isEmpty() ? text : "\"" + sentence + "\": " + text);
    }

    static void finish() {
        System.out.println(wrong == 0 ? "all answers are as due" : wrong + " answers are not as due");
        if (wrong != 0) {
            System.exit(1);
        }
    }

    /** Tells a text, '\n' for 13; the answer of its last sign. */
    static int tell(ZScreens x, String text) {
        int answer = x.told(8);
        for (char c : text.toCharArray()) {
            answer = x.sign(c == '\n' ? 13 : c);
        }
        return answer;
    }

    static void nameIt(ZScreens x, String text) {
        for (char c : text.toCharArray()) {
            x.name(c);
        }
    }

    /** The signs of a line, blanks behind them left away. */
    static String line(ZScreens x, int line) {
        return part(x, line, 0).stripTrailing();
    }

    /** One attribute of each cell of a line: signs as they are, else figures. */
    static String part(ZScreens x, int line, int what) {
        StringBuilder text = new StringBuilder();
        for (int column = 1; column <= x.told(1); column++) {
            int value = x.cell(line, column, what);
            text.append(what == 0 ? (char) value : Character.toUpperCase(Character.forDigit(value, 16)));
        }
        return text.toString();
    }

    /** The signs of all lines, joined by '|'. */
    static String signs(ZScreens x) {
        StringBuilder text = new StringBuilder();
        for (int line = 1; line <= x.told(0); line++) {
            text.append(line == 1 ? "" : "|").append(line(x, line));
        }
        return text.toString();
    }

    /** All five parts of a cell, as they are told: sign, style, font, colours. */
    static String cell(ZScreens x, int line, int column) {
        StringBuilder text = new StringBuilder();
        for (int what = 0; what <= 4; what++) {
            text.append(what == 0 ? "" : " ").append(x.cell(line, column, what));
        }
        return text.toString();
    }

    /** All parts of all cells. */
    static String cells(ZScreens x) {
        StringBuilder text = new StringBuilder();
        for (int line = 1; line <= x.told(0); line++) {
            for (int column = 1; column <= x.told(1); column++) {
                for (int what = 0; what <= 4; what++) {
                    text.append((char) ('!' + x.cell(line, column, what)));
                }
            }
        }
        return text.toString();
    }

    static void cursors(String what, ZScreens x, int lowerLine, int lowerColumn, int upperLine, int upperColumn) {
        due(what + ": lower line", x.told(4), lowerLine);
        due(what + ": lower column", x.told(5), lowerColumn);
        due(what + ": upper line", x.told(6), upperLine);
        due(what + ": upper column", x.told(7), upperColumn);
    }

    /** All that can be asked for without changing anything. */
    static String all(ZScreens x) {
        StringBuilder text = new StringBuilder();
        for (int what = 0; what <= 15; what++) {
            text.append(x.told(what)).append(' ');
        }
        text.append(cells(x)).append(' ');
        for (int i = 0; i < x.written(-1); i++) {
            text.append(x.written(i)).append(',');
        }
        return text.toString();
    }
}
