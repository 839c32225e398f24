import java.util.Random;

/**
 * Runs of up to 512 calls, made from fixed seeds, on the class and on PlainScreen: each answer and
 * all that can be asked for is compared; a refused call has to change nothing; none may throw.
 */
public final class ManyRunsTest {
    private static final int RUNS = 240, CALLS = 512;
    private static final int[] WILD = {-1, 0, 1, 13, 255, 256, 65536, 65537, -10000, 10000,
        Integer.MIN_VALUE, Integer.MAX_VALUE};

    private final Random random;
    private final ZScreens x;
    private final PlainScreen plain;
    private String call = "";
    private int got = 0;
    private int want = 0;

    private ManyRunsTest(int seed) {
        random = new Random(seed);
        int version = 1 + seed % 8;
        int w = random.nextInt(4) == 0 ? random.nextInt(90) : 8 + random.nextInt(6);
        int l = random.nextInt(4) == 0 ? random.nextInt(50) : 3 + random.nextInt(5);
        x = new ZScreens(version, w, l);
        plain = new PlainScreen(version, w, l);
    }

    public static void main(String[] args) {
        for (int seed = 0; seed < RUNS; seed++) {
            new ManyRunsTest(seed).run(seed);
        }
        Checks.finish();
    }

    private void run(int seed) {
        String before = Checks.all(x);
        for (int i = 1; i <= CALLS; i++) {
            step();
            String where = "seed " + seed + ", call " + i + ": " + call;
            Checks.due(where, got, want);
            if (i % 8 == 0 || got < 0) {
                compare(where);
            }
            boolean refused = got < 0 && !call.startsWith("status");
            if (refused) {
                Checks.due(where + " changes nothing", Checks.all(x), before);
            }
            before = Checks.all(x);
        }
    }

    private void compare(String where) {
        for (int what = -1; what <= 16; what++) {
            Checks.due(where + ", told(" + what + ")", x.told(what), plain.told(what));
        }
        for (int line = 1; line <= x.told(0); line++) {
            for (int column = 1; column <= x.told(1); column++) {
                for (int what = 0; what <= 4; what++) {
                    int due = plain.cell(line, column, what);
                    if (x.cell(line, column, what) != due) {
                        Checks.due(where + ", cell(" + line + ", " + column + ", " + what + ")",
                            x.cell(line, column, what), due);
                    }
                }
            }
        }
        for (int i = -2; i <= plain.written(-1); i++) {
            Checks.due(where + ", written(" + i + ")", x.written(i), plain.written(i));
        }
    }

    private int near(int least, int most) {
        return random.nextInt(40) == 0 ? WILD[random.nextInt(WILD.length)]
            : least - 1 + random.nextInt(most - least + 3);
    }

    private int letter() {
        int kind = random.nextInt(12);
        return kind == 0 ? 13 : kind <= 2 ? 32 : kind == 3 ? near(32, 126) : 97 + random.nextInt(26);
    }

    private void step() {
        int kind = random.nextInt(60);
        if (kind >= 24) {
            tellSign(letter());
        } else if (kind < 10) {
            stepOfPanes(kind);
        } else {
            stepOfTheRest(kind);
        }
    }

    private void tellSign(int c) {
        call = "sign(" + c + ")";
        got = x.sign(c);
        want = plain.sign(c);
    }

    private void answer(String name, int a, int b) {
        call = name + "(" + a + ", " + b + ")";
    }

    private void stepOfPanes(int kind) {
        int a = near(0, 5);
        int b = near(1, x.told(1));
        if (kind <= 2) {
            answer("split", a, 0);
            got = x.split(a);
            want = plain.split(a);
        } else if (kind <= 5) {
            int pane = near(0, 1);
            answer("choose", pane, 0);
            got = x.choose(pane);
            want = plain.choose(pane);
        } else if (kind <= 7) {
            answer("cursor", a, b);
            got = x.cursor(a, b);
            want = plain.cursor(a, b);
        } else if (kind == 8) {
            int pane = near(-2, 1);
            answer("erase", pane, 0);
            got = x.erase(pane);
            want = plain.erase(pane);
        } else {
            call = "eraseLine()";
            got = x.eraseLine();
            want = plain.eraseLine();
        }
    }

    private void stepOfTheRest(int kind) {
        boolean on = random.nextBoolean();
        switch (kind) {
            case 10, 11 -> {
                int s = near(0, 15);
                answer("style", s, 0);
                got = x.style(s);
                want = plain.style(s);
            }
            case 12, 13 -> {
                int a = near(0, 9);
                int b = near(0, 9);
                answer("colour", a, b);
                got = x.colour(a, b);
                want = plain.colour(a, b);
            }
            case 14 -> {
                int f = near(0, 5);
                answer("font", f, 0);
                got = x.font(f);
                want = plain.font(f);
            }
            case 15 -> {
                call = "buffer(" + on + ")";
                got = x.buffer(on);
                want = plain.buffer(on);
            }
            case 16, 17, 18 -> {
                int c = near(32, 126);
                answer("name", c, 0);
                got = x.name(c);
                want = plain.name(c);
            }
            case 19 -> tellStatus();
            case 20 -> {
                call = "read()";
                got = x.read();
                want = plain.read();
            }
            case 21 -> {
                call = "transcript(" + on + ")";
                got = x.transcript(on);
                want = plain.transcript(on);
            }
            case 22 -> {
                int w = on ? near(8, 80) : near(8, 12);
                int l = on ? near(3, 40) : near(3, 8);
                answer("size", w, l);
                got = x.size(w, l);
                want = plain.size(w, l);
            }
            default -> {
                int line = near(1, x.told(0));
                int column = near(1, x.told(1));
                int what = near(0, 4);
                call = "cell(" + line + ", " + column + ", " + what + ")";
                got = x.cell(line, column, what);
                want = plain.cell(line, column, what);
            }
        }
    }

    private void tellStatus() {
        int kind = near(0, 1);
        int a = kind == 1 ? near(0, 23) : near(-9999, 9999);
        int b = kind == 1 ? near(0, 59) : near(-9999, 9999);
        call = "status(" + kind + ", " + a + ", " + b + ")";
        got = x.status(kind, a, b);
        want = plain.status(kind, a, b);
    }
}
