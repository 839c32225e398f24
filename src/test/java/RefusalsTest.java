import java.util.ArrayList;
import java.util.List;
import java.util.function.ToIntFunction;

/**
 * Each refusal, in each version and in several situations: it is answered, of several the first one,
 * and the refused call changes nothing. Two objects are made the same way, one of them is told the
 * refused call, and then both are asked and used in the same ways, so that what can't be asked for
 * (the NAME, BUFFER, whether THE TRANSCRIPT is on, the signs of the WORD) shows, too.
 */
public final class RefusalsTest {
    private static final int OUTSIDE = ZScreens.OUTSIDE, STATE = ZScreens.STATE;
    private static final int LEAST = Integer.MIN_VALUE, MOST = Integer.MAX_VALUE;
    private static final int SITUATIONS = 6;

    private record Refused(String text, int due, ToIntFunction<ZScreens> call) {
    }

    public static void main(String[] args) {
        for (int version = 1; version <= 8; version++) {
            for (int situation = 0; situation < SITUATIONS; situation++) {
                for (Refused refused : refusedOf(version, made(version, situation))) {
                    Checks.about("version " + version + ", situation " + situation + ", " + refused.text());
                    look(refused, made(version, situation), made(version, situation));
                }
            }
        }
        Checks.finish();
    }

    private static void look(Refused refused, ZScreens x, ZScreens twin) {
        Checks.due("the refusal", refused.call().applyAsInt(x), refused.due());
        Checks.due("what can be asked for", Checks.all(x), Checks.all(twin));
        Checks.due("the uses behind it", uses(x), uses(twin));
        Checks.due("what can be asked for then", Checks.all(x), Checks.all(twin));
    }

    private static String uses(ZScreens x) {
        StringBuilder text = new StringBuilder();
        text.append(x.transcript(true)).append(' ').append(x.sign('q')).append(' ').append(x.told(11));
        text.append(' ').append(x.buffer(true)).append(' ').append(x.sign('r')).append(' ').append(x.name('N'));
        text.append(' ').append(x.status(0, 1, 2)).append(' ').append(Checks.line(x, 1));
        text.append(' ').append(x.read()).append(' ').append(x.sign(13)).append(' ').append(x.choose(0));
        return text.toString();
    }

    /** A new one; a word waits; the upper pane is chosen; signs come one by one; wrapped words; all is full. */
    private static ZScreens made(int version, int situation) {
        ZScreens x = new ZScreens(version, situation == 5 ? 80 : 10, 6);
        if (situation > 0) {
            x.style(5);
            x.colour(4, 7);
            x.font(3);
            x.transcript(situation % 2 == 1);
            Checks.nameIt(x, "CAVE");
            Checks.tell(x, "a\nbc d\nef");
        }
        if (situation == 2) {
            x.split(3);
            x.choose(1);
            Checks.tell(x, "up\nabc");
        } else if (situation == 3) {
            x.buffer(false);
            Checks.tell(x, "12345678901234567890\n1234567890");
        } else if (situation == 4) {
            x.split(2);
            Checks.tell(x, " word word word wo");
        } else if (situation == 5) {
            Checks.nameIt(x, "N".repeat(60));
            Checks.tell(x, "word ".repeat(99));
        }
        return x;
    }

    private static List<Refused> refusedOf(int version, ZScreens x) {
        List<Refused> all = new ArrayList<>();
        addPanes(all, version, x);
        addCursor(all, version, x.told(3) == 1, x.told(2));
        addSignsAndLooks(all, version);
        addStatus(all, version);
        addQuestions(all, x.written(-1), x.told(0), x.told(1));
        return all;
    }

    private static void addPanes(List<Refused> all, int version, ZScreens x) {
        int[] splits = {LEAST, -1, 256, MOST};
        for (int n : splits) {
            all.add(new Refused("split(" + n + ")", OUTSIDE, y -> y.split(n)));
        }
        int[] chosen = {LEAST, -2, -1, 2, MOST};
        for (int pane : chosen) {
            all.add(new Refused("choose(" + pane + ")", OUTSIDE, y -> y.choose(pane)));
        }
        int[] erased = {LEAST, -3, 2, MOST};
        for (int pane : erased) {
            all.add(new Refused("erase(" + pane + ")", OUTSIDE, y -> y.erase(pane)));
        }
        if (version < 3) {
            all.add(new Refused("split(0)", STATE, y -> y.split(0)));
            all.add(new Refused("split(2)", STATE, y -> y.split(2)));
            all.add(new Refused("split(255)", STATE, y -> y.split(255)));
            all.add(new Refused("choose(0)", STATE, y -> y.choose(0)));
        }
        if (x.told(2) == 0) {
            all.add(new Refused("choose(1) with HEIGHT 0", STATE, y -> y.choose(1)));
        }
        if (version < 4) {
            all.add(new Refused("eraseLine()", STATE, y -> y.eraseLine()));
            for (int pane = -2; pane <= 1; pane++) {
                int which = pane;
                all.add(new Refused("erase(" + pane + ")", STATE, y -> y.erase(which)));
            }
        }
    }

    /** As long as the lower pane is chosen it is no refusal, but answers 0 and does nothing, either. */
    private static void addCursor(List<Refused> all, int version, boolean upper, int height) {
        int[][] beyond = {{0, 1}, {height + 1, 1}, {1, 0}, {1, 81}, {LEAST, MOST}, {MOST, LEAST}};
        for (int[] place : beyond) {
            int due = version < 4 ? STATE : upper ? OUTSIDE : 0;
            if (version != 4 || !upper) {
                all.add(new Refused("cursor(" + place[0] + ", " + place[1] + ")", due, y -> y.cursor(place[0], place[1])));
            }
        }
        if (version < 4 || !upper) {
            all.add(new Refused("cursor(1, 2)", version < 4 ? STATE : 0, y -> y.cursor(1, 2)));
        }
    }

    private static void addSignsAndLooks(List<Refused> all, int version) {
        int[] signs = {LEAST, -1, 0, 12, 14, 31, 127, 128, 255, MOST};
        for (int c : signs) {
            all.add(new Refused("sign(" + c + ")", OUTSIDE, y -> y.sign(c)));
            all.add(new Refused("name(" + c + ")", OUTSIDE, y -> y.name(c)));
        }
        all.add(new Refused("name(13)", OUTSIDE, y -> y.name(13)));
        int[] styles = {LEAST, -1, 16, MOST};
        for (int s : styles) {
            all.add(new Refused("style(" + s + ")", OUTSIDE, y -> y.style(s)));
        }
        int[][] colours = {{-1, 3}, {10, 3}, {3, -1}, {3, 10}, {LEAST, MOST}, {MOST, LEAST}};
        for (int[] pair : colours) {
            all.add(new Refused("colour(" + pair[0] + ", " + pair[1] + ")", OUTSIDE, y -> y.colour(pair[0], pair[1])));
        }
        if (version < 4) {
            all.add(new Refused("style(0)", STATE, y -> y.style(0)));
            all.add(new Refused("style(15)", STATE, y -> y.style(15)));
        }
        if (version < 5) {
            all.add(new Refused("colour(0, 0)", STATE, y -> y.colour(0, 0)));
            all.add(new Refused("colour(3, 5)", STATE, y -> y.colour(3, 5)));
        }
        int[] fonts = {LEAST, -1, 2, 5, MOST};
        for (int f : fonts) {
            all.add(new Refused("font(" + f + ")", version < 5 ? STATE : 0, y -> y.font(f)));
        }
        for (int f = 0; version < 5 && f <= 4; f++) {
            int font = f;
            all.add(new Refused("font(" + f + ")", STATE, y -> y.font(font)));
        }
    }

    private static void addStatus(List<Refused> all, int version) {
        int[][] wrong = {{-1, 1, 1}, {2, 1, 1}, {LEAST, 1, 1}, {MOST, 1, 1}, {0, -10000, 1}, {0, 10000, 1},
            {0, 1, -10000}, {0, 1, 10000}, {1, -1, 1}, {1, 24, 1}, {1, 1, -1}, {1, 1, 60}, {0, LEAST, MOST},
            {1, MOST, LEAST}};
        for (int[] row : wrong) {
            all.add(new Refused("status(" + row[0] + ", " + row[1] + ", " + row[2] + ")", OUTSIDE,
                y -> y.status(row[0], row[1], row[2])));
        }
        if (version > 3) {
            all.add(new Refused("status(0, 1, 1)", STATE, y -> y.status(0, 1, 1)));
        }
        if (version != 3) {
            all.add(new Refused("status(1, 1, 1)", STATE, y -> y.status(1, 1, 1)));
        }
    }

    private static void addQuestions(List<Refused> all, int written, int lines, int width) {
        int[] signs = {LEAST, -2, written, MOST};
        for (int i : signs) {
            all.add(new Refused("written(" + i + ")", OUTSIDE, y -> y.written(i)));
        }
        int[][] sizes = {{-1, 5}, {65537, 5}, {9, -1}, {9, 65537}, {LEAST, MOST}, {MOST, LEAST}};
        for (int[] row : sizes) {
            all.add(new Refused("size(" + row[0] + ", " + row[1] + ")", OUTSIDE, y -> y.size(row[0], row[1])));
        }
        int[][] cells = {{0, 1, 0}, {lines + 1, 1, 0}, {1, 0, 0}, {1, width + 1, 0}, {1, 1, -1}, {1, 1, 5},
            {LEAST, 1, 0}, {1, MOST, 0}, {1, 1, LEAST}, {MOST, LEAST, MOST}};
        for (int[] row : cells) {
            all.add(new Refused("cell(" + row[0] + ", " + row[1] + ", " + row[2] + ")", OUTSIDE,
                y -> y.cell(row[0], row[1], row[2])));
        }
        int[] whats = {LEAST, -1, 16, MOST};
        for (int what : whats) {
            all.add(new Refused("told(" + what + ")", OUTSIDE, y -> y.told(what)));
        }
    }
}
