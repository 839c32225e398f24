import java.util.Arrays;

/** The screen of a story machine, versions 1 to 8: a status line, two panes, a transcript. */
public final class ZScreens {
    public static final int OUTSIDE = -1, STATE = -2;

    private static final int LEAST_LINES = 3, MOST_LINES = 40;
    private static final int LEAST_WIDTH = 8, MOST_WIDTH = 80;
    private static final int MOST_VERSION = 8, MOST_SPLIT = 255, MOST_SIZE = 65536;
    private static final int MOST_NAME = 60, MOST_WRITTEN = 500;
    private static final int LOWER = 0, UPPER = 1, ALL = -1, BOTH = -2;
    private static final int RETURN = 13, SPACE = 32, LAST_SIGN = 126;
    private static final int MOST_STYLE = 15, STATUS_STYLE = 1, FIRST_FONT = 1;
    private static final int FIRST_INK = 2, FIRST_PAPER = 9, MOST_COLOUR = 9;
    private static final int SCORE = 0, TIME = 1, MOST_SCORE = 9999;
    private static final int CELL_PARTS = 5;

    private final int version;
    private final Grid grid;
    private final Pen pen = new Pen();
    private final Spot lower = new Spot();
    private final Spot upper = new Spot();
    private final Pile word = new Pile(MOST_WIDTH);
    private final Pile title = new Pile(MOST_NAME);
    private final Pile script = new Pile(MOST_WRITTEN);
    private int lines;
    private int width;
    private int height = 0;
    private int chosen = LOWER;
    private boolean buffering = true;
    private boolean recording = false;
    private int newLines = 0;
    private int count = 0;
    private int more = 0;

    public ZScreens(int version, int w, int l) {
        this.version = nearest(version, 1, MOST_VERSION);
        this.width = nearest(w, LEAST_WIDTH, MOST_WIDTH);
        this.lines = nearest(l, LEAST_LINES, MOST_LINES);
        this.grid = new Grid(pen.blank());
        lower.moveTo(firstLowerLine(), 1);
    }

    public int split(int n) {
        if (isOutside(n, 0, MOST_SPLIT)) {
            return OUTSIDE;
        }
        if (version < 3) {
            return STATE;
        }
        putWord();
        int lineOfScreen = aboveLower() + lower.line;
        height = Math.min(n, mostHeight());
        if (version == 3) {
            blankUpper();
        }
        int lineOfPane = lineOfScreen - aboveLower();
        if (lineOfPane < 1) {
            lower.moveTo(1, 1);
        } else {
            lower.moveTo(lineOfPane, lower.column);
        }
        settleUpper();
        return height;
    }

    public int choose(int pane) {
        if (isOutside(pane, LOWER, UPPER)) {
            return OUTSIDE;
        }
        if (version < 3 || (pane == UPPER && height == 0)) {
            return STATE;
        }
        putWord();
        int before = chosen;
        chosen = pane;
        if (pane == UPPER) {
            upper.moveTo(1, 1);
        }
        return before;
    }

    public int cursor(int line, int column) {
        if (version < 4) {
            return STATE;
        }
        if (chosen == LOWER) {
            return 0;
        }
        if (version > 4 && (isOutside(line, 1, height) || isOutside(column, 1, width))) {
            return OUTSIDE;
        }
        upper.moveTo(nearest(line, 1, height), nearest(column, 1, width));
        return 1;
    }

    public int sign(int c) {
        if (c != RETURN && isOutside(c, SPACE, LAST_SIGN)) {
            return OUTSIDE;
        }
        if (chosen == UPPER) {
            writeUpper(c);
        } else {
            writeLower(c);
        }
        return newLines;
    }

    public int erase(int pane) {
        if (isOutside(pane, BOTH, UPPER)) {
            return OUTSIDE;
        }
        if (version < 4) {
            return STATE;
        }
        putWord();
        if (pane == ALL) {
            height = 0;
            chosen = LOWER;
        }
        if (pane != LOWER) {
            clearUpper();
        }
        if (pane != UPPER) {
            clearLower();
        }
        return 1;
    }

    public int eraseLine() {
        if (version < 4) {
            return STATE;
        }
        putWord();
        Spot spot = chosen == UPPER ? upper : lower;
        int above = chosen == UPPER ? aboveUpper() : aboveLower();
        grid.fill(above + spot.line, spot.column, width, pen.blank());
        return width + 1 - spot.column;
    }

    public int style(int s) {
        if (isOutside(s, 0, MOST_STYLE)) {
            return OUTSIDE;
        }
        if (version < 4) {
            return STATE;
        }
        if (version == 4 || s == 0) {
            pen.style = s;
        } else {
            pen.style = pen.style | s;
        }
        return pen.style;
    }

    public int colour(int a, int b) {
        if (isOutside(a, 0, MOST_COLOUR) || isOutside(b, 0, MOST_COLOUR)) {
            return OUTSIDE;
        }
        if (version < 5) {
            return STATE;
        }
        int before = 10 * pen.ink + pen.paper;
        pen.ink = colourAfter(a, pen.ink, FIRST_INK);
        pen.paper = colourAfter(b, pen.paper, FIRST_PAPER);
        return before;
    }

    public int font(int f) {
        if (version < 5) {
            return STATE;
        }
        int before = pen.font;
        if (f == 0) {
            return before;
        }
        if (f != 1 && f != 3 && f != 4) {
            return 0;
        }
        pen.font = f;
        return before;
    }

    public int buffer(boolean on) {
        putWord();
        int before = buffering ? 1 : 0;
        buffering = on;
        return before;
    }

    public int name(int c) {
        if (isOutside(c, SPACE, LAST_SIGN)) {
            return OUTSIDE;
        }
        title.add(c);
        return title.length;
    }

    public int status(int kind, int a, int b) {
        if (isOutside(kind, SCORE, TIME) || !areNumbersOf(kind, a, b)) {
            return OUTSIDE;
        }
        if (version > 3 || (kind == TIME && version != 3)) {
            return STATE;
        }
        StringBuilder numbers = new StringBuilder();
        if (kind == SCORE) {
            appendScore(numbers, a, b);
        } else {
            appendTime(numbers, a, b);
        }
        int begin = width - numbers.length();
        grid.fill(1, 1, width, statusCell(SPACE));
        for (int i = 0; i < numbers.length(); i++) {
            grid.set(1, begin + i, statusCell(numbers.charAt(i)));
        }
        drawTitle(begin - 2);
        title.clear();
        return begin;
    }

    public int read() {
        putWord();
        int before = count;
        count = 0;
        return before;
    }

    public int transcript(boolean on) {
        int before = recording ? 1 : 0;
        recording = on;
        return before;
    }

    public int written(int i) {
        if (i == -1) {
            return script.length;
        }
        if (isOutside(i, 0, script.length - 1)) {
            return OUTSIDE;
        }
        return script.get(i);
    }

    public int size(int w, int l) {
        if (isOutside(w, 0, MOST_SIZE) || isOutside(l, 0, MOST_SIZE)) {
            return OUTSIDE;
        }
        putWord();
        changeWidth(nearest(w, LEAST_WIDTH, MOST_WIDTH));
        changeLines(nearest(l, LEAST_LINES, MOST_LINES));
        settleUpper();
        count = 0;
        return 100 * lines + width;
    }

    public int cell(int line, int column, int what) {
        if (isOutside(line, 1, lines) || isOutside(column, 1, width)
                || isOutside(what, 0, CELL_PARTS - 1)) {
            return OUTSIDE;
        }
        return Pen.part(grid.get(line, column), what);
    }

    public int told(int what) {
        switch (what) {
            case 0: return lines;
            case 1: return width;
            case 2: return height;
            case 3: return chosen;
            case 4: return lower.line;
            case 5: return lower.column;
            case 6: return upper.line;
            case 7: return upper.column;
            case 8: return newLines;
            case 9: return count;
            case 10: return more;
            case 11: return word.length;
            case 12: return pen.style;
            case 13: return pen.font;
            case 14: return pen.ink;
            case 15: return pen.paper;
            default: return OUTSIDE;
        }
    }

    private static int nearest(int n, int least, int most) {
        return Math.max(least, Math.min(most, n));
    }

    private static boolean isOutside(int n, int least, int most) {
        return n < least || n > most;
    }

    private int aboveUpper() {
        return version <= 3 ? 1 : 0;
    }

    private int aboveLower() {
        return aboveUpper() + height;
    }

    private int lowerLines() {
        return lines - aboveLower();
    }

    private int mostHeight() {
        return lines - aboveUpper() - 1;
    }

    private int firstLowerLine() {
        return version >= 5 ? 1 : lowerLines();
    }

    private void blankLines(int first, int last) {
        for (int line = first; line <= last; line++) {
            grid.fill(line, 1, width, pen.blank());
        }
    }

    private void settleUpper() {
        if (upper.line > height) {
            upper.moveTo(1, 1);
        }
        if (height == 0) {
            chosen = LOWER;
        }
    }

    private void blankUpper() {
        blankLines(aboveUpper() + 1, aboveLower());
    }

    private void clearUpper() {
        blankUpper();
        upper.moveTo(1, 1);
    }

    private void clearLower() {
        blankLines(aboveLower() + 1, lines);
        lower.moveTo(firstLowerLine(), 1);
        count = 0;
    }

    private void writeUpper(int c) {
        if (c == RETURN) {
            upper.moveTo(Math.min(upper.line + 1, height), 1);
            return;
        }
        if (upper.column > width && version >= 5 && upper.line < height) {
            upper.moveTo(upper.line + 1, 1);
        }
        if (upper.column <= width) {
            grid.set(aboveUpper() + upper.line, upper.column, pen.draw(c));
            upper.moveTo(upper.line, upper.column + 1);
        }
    }

    private void writeLower(int c) {
        if (recording) {
            script.add(c);
        }
        if (!buffering || c == RETURN || c == SPACE) {
            putWord();
            writeOne(c);
            return;
        }
        // a sign keeps the style, font and colours that it was told with while it waits
        word.add(pen.draw(c));
        if (word.length >= width) {
            putWord();
        }
    }

    private void writeOne(int c) {
        if (c == RETURN) {
            newLine();
            return;
        }
        if (lower.column > width) {
            if (buffering) {
                // words wait, so this is a 32, which is not worth a new line
                return;
            }
            newLine();
        }
        putCell(pen.draw(c));
    }

    private void putWord() {
        if (word.length == 0) {
            return;
        }
        if (lower.column > 1 && lower.column + word.length - 1 > width) {
            newLine();
        }
        // a word has WIDTH signs at most, so from here on it fits in its line
        for (int i = 0; i < word.length; i++) {
            putCell(word.get(i));
        }
        word.clear();
    }

    private void putCell(int cell) {
        grid.set(aboveLower() + lower.line, lower.column, cell);
        lower.moveTo(lower.line, lower.column + 1);
    }

    private void newLine() {
        newLines++;
        if (lower.line < lowerLines()) {
            lower.moveTo(lower.line + 1, 1);
        } else {
            lower.moveTo(lower.line, 1);
            scroll();
        }
        count++;
        if (count >= Math.max(1, lowerLines() - 1)) {
            more++;
            count = 0;
        }
    }

    private void scroll() {
        for (int line = aboveLower() + 1; line < lines; line++) {
            grid.copyLine(line + 1, line);
        }
        grid.fill(lines, 1, width, pen.blank());
    }

    private static int colourAfter(int wanted, int now, int first) {
        if (wanted == 0) {
            return now;
        }
        return wanted == 1 ? first : wanted;
    }

    private static boolean areNumbersOf(int kind, int a, int b) {
        if (kind == SCORE) {
            return !isOutside(a, -MOST_SCORE, MOST_SCORE) && !isOutside(b, -MOST_SCORE, MOST_SCORE);
        }
        return !isOutside(a, 0, 23) && !isOutside(b, 0, 59);
    }

    private static void appendScore(StringBuilder numbers, int a, int b) {
        numbers.append(a);
        numbers.append('/');
        numbers.append(b);
    }

    private static void appendTime(StringBuilder numbers, int hour, int minute) {
        numbers.append(hour % 12 == 0 ? 12 : hour % 12);
        numbers.append(':');
        if (minute < 10) {
            numbers.append('0');
        }
        numbers.append(minute);
        numbers.append(hour < 12 ? "am" : "pm");
    }

    private int statusCell(int c) {
        return Pen.pack(c, STATUS_STYLE, FIRST_FONT, pen.ink, pen.paper);
    }

    private void drawTitle(int lastColumn) {
        for (int i = 0; i < title.length && i + 2 <= lastColumn; i++) {
            grid.set(1, i + 2, statusCell(title.get(i)));
        }
    }

    private void changeWidth(int widthNow) {
        for (int line = 1; line <= lines; line++) {
            grid.fill(line, width + 1, widthNow, pen.blank());
        }
        width = widthNow;
        lower.moveTo(lower.line, Math.min(lower.column, width + 1));
        upper.moveTo(upper.line, Math.min(upper.column, width + 1));
    }

    private void changeLines(int linesNow) {
        int linesBefore = lines;
        int lowerBefore = lowerLines();
        lines = linesNow;
        height = Math.min(height, mostHeight());
        int kept = Math.min(lowerBefore, lowerLines());
        // the kept lines only ever move up, so the first of them goes first
        for (int i = 1; i <= kept; i++) {
            grid.copyLine(linesBefore - kept + i, aboveLower() + i);
        }
        blankLines(aboveLower() + kept + 1, lines);
        lower.moveTo(Math.max(1, lower.line - (lowerBefore - kept)), lower.column);
    }

    /** The cells of the largest screen there is, so that another size makes no new rows. */
    private static final class Grid {
        private final int[] cells = new int[MOST_LINES * MOST_WIDTH];

        private Grid(int blank) {
            Arrays.fill(cells, blank);
        }

        private static boolean isIn(int line, int column) {
            return line >= 1 && line <= MOST_LINES && column >= 1 && column <= MOST_WIDTH;
        }

        private static int indexOf(int line, int column) {
            return (line - 1) * MOST_WIDTH + column - 1;
        }

        private int get(int line, int column) {
            return isIn(line, column) ? cells[indexOf(line, column)] : 0;
        }

        private void set(int line, int column, int cell) {
            if (isIn(line, column)) {
                cells[indexOf(line, column)] = cell;
            }
        }

        private void fill(int line, int first, int last, int cell) {
            if (first <= last && isIn(line, first) && isIn(line, last)) {
                Arrays.fill(cells, indexOf(line, first), indexOf(line, last) + 1, cell);
            }
        }

        private void copyLine(int from, int to) {
            if (isIn(from, 1) && isIn(to, 1)) {
                System.arraycopy(cells, indexOf(from, 1), cells, indexOf(to, 1), MOST_WIDTH);
            }
        }
    }

    /** What a sign is drawn with; a cell is one number, to keep the grid small. */
    private static final class Pen {
        private static final int SIGN_BITS = 7, SIGN_MASK = 127;
        private static final int PART_BITS = 4, PART_MASK = 15;

        private int style = 0;
        private int font = FIRST_FONT;
        private int ink = FIRST_INK;
        private int paper = FIRST_PAPER;

        private static int pack(int c, int style, int font, int ink, int paper) {
            int colours = ink | (paper << PART_BITS);
            int looks = style | (font << PART_BITS) | (colours << (2 * PART_BITS));
            return c | (looks << SIGN_BITS);
        }

        private static int part(int cell, int what) {
            if (what == 0) {
                return cell & SIGN_MASK;
            }
            return (cell >> (SIGN_BITS + (what - 1) * PART_BITS)) & PART_MASK;
        }

        private int draw(int c) {
            return pack(c, style, font, ink, paper);
        }

        private int blank() {
            return pack(SPACE, 0, FIRST_FONT, ink, paper);
        }
    }

    /** A cursor: a line, counted in its pane, and a column. */
    private static final class Spot {
        private int line = 1;
        private int column = 1;

        private void moveTo(int toLine, int toColumn) {
            line = toLine;
            column = toColumn;
        }
    }

    /** Numbers in the order they came; what comes to a full one is lost. */
    private static final class Pile {
        private final int[] items;
        private int length = 0;

        private Pile(int most) {
            items = new int[Math.max(0, most)];
        }

        private void add(int item) {
            if (length < items.length) {
                items[length] = item;
                length++;
            }
        }

        private int get(int i) {
            return i >= 0 && i < length && i < items.length ? items[i] : 0;
        }

        private void clear() {
            length = 0;
        }
    }
}
