import java.util.ArrayList;
import java.util.List;

/**
 * The document once more, held in another way: each pane is a list of its own rows, so that a slip
 * in the sums of lines of the class shows.
 */
final class PlainScreen {
    private static final int OUTSIDE = -1, STATE = -2;

    private final int version;
    private final List<int[][]> head = new ArrayList<>();
    private final List<int[][]> up = new ArrayList<>();
    private final List<int[][]> low = new ArrayList<>();
    private final List<int[]> word = new ArrayList<>();
    private final List<Integer> script = new ArrayList<>();
    private final StringBuilder title = new StringBuilder();
    private final int[] now = {0, 1, 2, 9};
    private int width;
    private int chosen = 0;
    private int lowLine = 1;
    private int lowColumn = 1;
    private int upLine = 1;
    private int upColumn = 1;
    private int newLines = 0;
    private int count = 0;
    private int more = 0;
    private boolean buffered = true;
    private boolean scripting = false;

    PlainScreen(int version, int w, int l) {
        this.version = clip(version, 1, 8);
        width = clip(w, 8, 80);
        int lines = clip(l, 3, 40);
        for (int i = 0; i < lines; i++) {
            (i == 0 && this.version < 4 ? head : low).add(blankRow());
        }
        if (this.version < 5) {
            lowLine = low.size();
        }
    }

    int split(int n) {
        if (n < 0 || n > 255) return OUTSIDE;
        if (version < 3) return STATE;
        flush();
        while (up.size() < n && low.size() > 1) {
            up.add(low.remove(0));
            lowLine--;
        }
        while (up.size() > n) {
            low.add(0, up.remove(up.size() - 1));
            lowLine++;
        }
        if (version == 3) {
            for (int i = 0; i < up.size(); i++) up.set(i, blankRow());
        }
        if (lowLine < 1) {
            lowLine = 1;
            lowColumn = 1;
        }
        mendUpper();
        return up.size();
    }

    int choose(int pane) {
        if (pane != 0 && pane != 1) return OUTSIDE;
        if (version < 3 || (pane == 1 && up.isEmpty())) return STATE;
        flush();
        int was = chosen;
        chosen = pane;
        if (pane == 1) {
            upLine = 1;
            upColumn = 1;
        }
        return was;
    }

    int cursor(int line, int column) {
        if (version < 4) return STATE;
        if (chosen == 0) return 0;
        int nearLine = clip(line, 1, up.size());
        int nearColumn = clip(column, 1, width);
        if (version >= 5 && (nearLine != line || nearColumn != column)) return OUTSIDE;
        upLine = nearLine;
        upColumn = nearColumn;
        return 1;
    }

    int sign(int c) {
        if (c != 13 && (c < 32 || c > 126)) return OUTSIDE;
        if (chosen == 1) {
            upperSign(c);
            return newLines;
        }
        if (scripting && script.size() < 500) script.add(c);
        if (!buffered) {
            one(c, look(c));
        } else if (c == 13) {
            flush();
            newLine();
        } else if (c == 32) {
            flush();
            if (lowColumn <= width) one(c, look(c));
        } else {
            word.add(look(c));
            if (word.size() == width) flush();
        }
        return newLines;
    }

    int erase(int pane) {
        if (pane < -2 || pane > 1) return OUTSIDE;
        if (version < 4) return STATE;
        flush();
        if (pane == -1) {
            low.addAll(0, up);
            up.clear();
            chosen = 0;
        }
        if (pane == 1 || pane < 0) {
            for (int i = 0; i < up.size(); i++) up.set(i, blankRow());
            upLine = 1;
            upColumn = 1;
        }
        if (pane <= 0) {
            for (int i = 0; i < low.size(); i++) low.set(i, blankRow());
            lowLine = version >= 5 ? 1 : low.size();
            lowColumn = 1;
            count = 0;
        }
        return 1;
    }

    int eraseLine() {
        if (version < 4) return STATE;
        flush();
        int[][] row = chosen == 1 ? up.get(upLine - 1) : low.get(lowLine - 1);
        int cells = 0;
        for (int column = chosen == 1 ? upColumn : lowColumn; column <= width; column++) {
            row[column - 1] = blank();
            cells++;
        }
        return cells;
    }

    int style(int s) {
        if (s < 0 || s > 15) return OUTSIDE;
        if (version < 4) return STATE;
        now[0] = version == 4 || s == 0 ? s : now[0] | s;
        return now[0];
    }

    int colour(int a, int b) {
        if (a < 0 || a > 9 || b < 0 || b > 9) return OUTSIDE;
        if (version < 5) return STATE;
        int was = 10 * now[2] + now[3];
        if (a > 0) now[2] = a == 1 ? 2 : a;
        if (b > 0) now[3] = b == 1 ? 9 : b;
        return was;
    }

    int font(int f) {
        if (version < 5) return STATE;
        if (f == 0) return now[1];
        if ("134".indexOf(f + '0') < 0) return 0;
        int was = now[1];
        now[1] = f;
        return was;
    }

    int buffer(boolean on) {
        flush();
        boolean was = buffered;
        buffered = on;
        return was ? 1 : 0;
    }

    int name(int c) {
        if (c < 32 || c > 126) return OUTSIDE;
        if (title.length() < 60) title.append((char) c);
        return title.length();
    }

    int status(int kind, int a, int b) {
        if (kind != 0 && kind != 1) return OUTSIDE;
        if (kind == 0 && (Math.abs((long) a) > 9999 || Math.abs((long) b) > 9999)) return OUTSIDE;
        if (kind == 1 && (a < 0 || a > 23 || b < 0 || b > 59)) return OUTSIDE;
        if (version > 3 || (kind == 1 && version < 3)) return STATE;
        int hour = (a + 11) % 12 + 1;
        String numbers = kind == 0 ? a + "/" + b : String.format("%d:%02d%s", hour, b, a > 11 ? "pm" : "am");
        int begin = width - numbers.length();
        for (int column = 1; column <= width; column++) {
            int c = 32;
            if (column >= begin && column < width) {
                c = numbers.charAt(column - begin);
            } else if (column > 1 && column - 2 < title.length() && column < begin - 1) {
                c = title.charAt(column - 2);
            }
            head.get(0)[column - 1] = new int[] {c, 1, 1, now[2], now[3]};
        }
        title.setLength(0);
        return begin;
    }

    int read() {
        flush();
        int was = count;
        count = 0;
        return was;
    }

    int transcript(boolean on) {
        boolean was = scripting;
        scripting = on;
        return was ? 1 : 0;
    }

    int written(int i) {
        if (i == -1) return script.size();
        return i < 0 || i >= script.size() ? OUTSIDE : script.get(i);
    }

    int size(int w, int l) {
        if (w < 0 || w > 65536 || l < 0 || l > 65536) return OUTSIDE;
        flush();
        width = clip(w, 8, 80);
        int lines = clip(l, 3, 40);
        for (List<int[][]> pane : List.of(head, up, low)) {
            for (int i = 0; i < pane.size(); i++) {
                int[][] row = blankRow();
                System.arraycopy(pane.get(i), 0, row, 0, Math.min(width, pane.get(i).length));
                pane.set(i, row);
            }
        }
        while (head.size() + up.size() + low.size() > lines && low.size() > 1) {
            low.remove(0);
            lowLine--;
        }
        while (head.size() + up.size() + low.size() > lines) {
            up.remove(up.size() - 1);
        }
        while (head.size() + up.size() + low.size() < lines) {
            low.add(blankRow());
        }
        lowLine = Math.max(1, lowLine);
        lowColumn = Math.min(lowColumn, width + 1);
        upColumn = Math.min(upColumn, width + 1);
        mendUpper();
        count = 0;
        return 100 * lines + width;
    }

    int cell(int line, int column, int what) {
        List<int[][]> rows = rows();
        if (line < 1 || line > rows.size() || column < 1 || column > width || what < 0 || what > 4) return OUTSIDE;
        return rows.get(line - 1)[column - 1][what];
    }

    int told(int what) {
        int[] all = {rows().size(), width, up.size(), chosen, lowLine, lowColumn, upLine, upColumn, newLines, count,
            more, word.size(), now[0], now[1], now[2], now[3]};
        return what < 0 || what >= all.length ? OUTSIDE : all[what];
    }

    private static int clip(int n, int least, int most) {
        return n < least ? least : n > most ? most : n;
    }

    private int[] look(int c) {
        return new int[] {c, now[0], now[1], now[2], now[3]};
    }

    private int[] blank() {
        return new int[] {32, 0, 1, now[2], now[3]};
    }

    private int[][] blankRow() {
        int[][] row = new int[width][];
        for (int i = 0; i < width; i++) row[i] = blank();
        return row;
    }

    private List<int[][]> rows() {
        List<int[][]> rows = new ArrayList<>(head);
        rows.addAll(up);
        rows.addAll(low);
        return rows;
    }

    private void mendUpper() {
        if (upLine > up.size()) {
            upLine = 1;
            upColumn = 1;
        }
        if (up.isEmpty()) chosen = 0;
    }

    private void upperSign(int c) {
        if (c == 13) {
            if (upLine < up.size()) upLine++;
            upColumn = 1;
            return;
        }
        if (upColumn > width) {
            if (version < 5 || upLine == up.size()) return;
            upLine++;
            upColumn = 1;
        }
        up.get(upLine - 1)[upColumn++ - 1] = look(c);
    }

    private void flush() {
        if (!word.isEmpty() && lowColumn != 1 && lowColumn - 1 + word.size() > width) newLine();
        for (int[] cell : word) one(cell[0], cell);
        word.clear();
    }

    private void one(int c, int[] cell) {
        if (c == 13) {
            newLine();
            return;
        }
        if (lowColumn > width) newLine();
        low.get(lowLine - 1)[lowColumn++ - 1] = cell;
    }

    private void newLine() {
        newLines++;
        count++;
        lowColumn = 1;
        if (lowLine == low.size()) {
            low.remove(0);
            low.add(blankRow());
        } else {
            lowLine++;
        }
        if (count >= Math.max(1, low.size() - 1)) {
            more++;
            count = 0;
        }
    }
}
