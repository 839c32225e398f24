/** The example of README.md, with the answers that it tells of. */
public final class UseTest {
    private UseTest() {
    }

    public static void main(String[] args) {
        Checks.about("README.md, Use");
        ZScreens x = new ZScreens(5, 40, 10);
        Checks.due("split(1)", x.split(1), 1);
        Checks.due("choose(1)", x.choose(1), 0);
        for (char c : "West of House".toCharArray()) {
            Checks.due("sign", x.sign(c), 0);
        }
        Checks.due("choose(0)", x.choose(0), 1);
        Checks.due("sign('>')", x.sign('>'), 0);
        Checks.due("told(11)", x.told(11), 1);
        Checks.due("read()", x.read(), 0);
        Checks.due("cell(1, 6, 0)", x.cell(1, 6, 0), 'o');
        Checks.due("cell(2, 1, 0)", x.cell(2, 1, 0), '>');
        Checks.due("style(16)", x.style(16), ZScreens.OUTSIDE);
        Checks.due("status(0, 5, 10)", x.status(0, 5, 10), ZScreens.STATE);
        Checks.finish();
    }
}
