/** Promises 10 to 15: clothes behind months, who wears them, who is bare, freezes, changes. */
public final class MonthsTest {
    public static void main(String[] args) {
        rain();
        sun();
        moths();
        goneStaysAsItIs();
        fitting();
        wearing();
        bareAndGone();
        freezing();
        changing();
        staysUpToDate();
        Check.end("MonthsTest");
    }

    private static void rain() {
        StatueCoats x = Check.town("", "99w01;99l01;99h01;19h01;10w01", "rr.fsr");
        Check.dueRow("wool in rain", m -> x.is(m, 0, 0), 99, 90, 81, 81, 81, 81, 73, Check.BAD);
        Check.dueRow("linen in rain", m -> x.is(m, 1, 0), 99, 99, 99, 99, 99, 99, 99, Check.BAD);
        Check.dueRow("half in rain", m -> x.is(m, 2, 0), 99, 95, 91, 91, 91, 91, 87, Check.BAD);
        Check.dueRow("half below 20", m -> x.is(m, 3, 0), 19, 19, 19);
        Check.dueRow("wool to below 10", m -> x.is(m, 4, 0), 10, 9, 9, 9, 9, 9, 9);
    }

    private static void sun() {
        StatueCoats x = Check.town("", "50w21;50l21;50h21", "ssrs");
        Check.dueRow("wool in sun", m -> x.is(m, 0, 1), 2, 2, 2, 2, 2);
        Check.dueRow("linen in sun", m -> x.is(m, 1, 1), 2, 1, 0, 0, 0, Check.BAD);
        Check.dueRow("half in sun", m -> x.is(m, 2, 1), 2, 2, 2, 2, 2);
    }

    private static void moths() {
        StatueCoats x = Check.town("", "50w05;50l05;50h05;50w04", "mmmmm");
        Check.dueRow("wool", m -> x.is(m, 0, 2), 5, 3, 1, 0, 0, 0, Check.BAD);
        Check.dueRow("linen", m -> x.is(m, 1, 2), 5, 5, 5, 5, 5, 5, Check.BAD);
        Check.dueRow("half", m -> x.is(m, 2, 2), 5, 4, 3, 2, 1, 0, Check.BAD);
        Check.dueRow("wool", m -> x.is(m, 3, 2), 4, 2, 0, 0, 0, 0);
        Check.due("is what 3", x.is(0, 0, 3), Check.BAD);
        Check.due("is what -1", x.is(0, 0, -1), Check.BAD);
        Check.due("is cloth 4", x.is(0, 4, 0), Check.BAD);
        Check.due("is cloth -1", x.is(0, -1, 0), Check.BAD);
        Check.due("is months -1", x.is(-1, 0, 0), Check.BAD);
    }

    private static void goneStaysAsItIs() {
        StatueCoats x = Check.town("", "60w51;60h51", "rmrr");
        Check.dueRow("gone wool", m -> x.is(m, 0, 0), 60, 54, 54, 54, 54);
        Check.dueRow("gone half", m -> x.is(m, 1, 0), 60, 57, 57, 57, 57);
        Check.due("its buttons", x.is(4, 0, 1), 5);
    }

    private static void fitting() {
        StatueCoats x = Check.town("500n;502s;610n;300s", "50w11;65w21;66w91;49w91;50w01", "m");
        Check.dueRow("fits", c -> x.fits(0, c), 1, 7, 4, 0, 1, Check.BAD);
        x.set(0, 0);
        Check.dueRow("fits without slack", c -> x.fits(0, c), 1, 0, 0, 0, 1);
        x.set(0, 16);
        Check.dueRow("fits with 16", c -> x.fits(0, c), 1, 7, 7, 0, 1);
        x.set(0, 40);
        Check.dueRow("fits with 40", c -> x.fits(0, c), 9, 15, 15, 8, 9);
        Check.dueRow("gone ones fit nobody", c -> x.fits(1, c), 0, 0, 0, 0, 0, Check.BAD);
        Check.due("fits months 2", x.fits(2, 0), Check.BAD);
        Check.due("fits months -1", x.fits(-1, 0), Check.BAD);
        Check.due("fits cloth -1", x.fits(0, -1), Check.BAD);
    }

    private static void wearing() {
        StatueCoats x = Check.town("400n;500n;500s;310s", "55w11;52w01;52w11;45w01", "r");
        Check.dueRow("as told", s -> x.wears(0, s), 3, 1, 2, Check.NONE, Check.BAD);
        Check.dueRow("behind rain", s -> x.wears(1, s), 3, 0, Check.NONE, Check.NONE);
        StatueCoats y = Check.town("400n;500n;500s", "52w01;51w01;53w01", "");
        y.set(0, 20);
        Check.dueRow("least large first", s -> y.wears(0, s), 1, 0, 2, Check.BAD);
        y.set(1, 1);
        Check.dueRow("larger ones first", s -> y.wears(0, s), 2, 1, 0, Check.BAD);
        y.set(1, 0);
        Check.dueRow("as told again", s -> y.wears(0, s), 1, 0, 2, Check.BAD);
        StatueCoats z = Check.town("100n;900n;200n", "99l01;20l01;22l01", "");
        z.set(1, 1);
        Check.dueRow("the smallest last", s -> z.wears(0, s), 2, 0, 1, Check.BAD);
        Check.due("wears months 1", y.wears(1, 0), Check.BAD);
        Check.due("wears months -1", y.wears(-1, 0), Check.BAD);
        Check.due("wears statue -1", y.wears(0, -1), Check.BAD);
    }

    private static void bareAndGone() {
        StatueCoats x = Check.town("400n;500n;600s", "52w02;41l01;61h01", ".mr");
        Check.dueRow("bare", m -> x.behind(m, 0), 0, 0, 6, 6, Check.BAD);
        Check.dueRow("gone", m -> x.behind(m, 1), 0, 0, 5, 5, Check.BAD);
        Check.due("behind what 2", x.behind(0, 2), Check.BAD);
        Check.due("behind what -1", x.behind(0, -1), Check.BAD);
        Check.due("behind -1", x.behind(-1, 0), Check.BAD);
        StatueCoats y = Check.town("100n;100n;100n;100n;100n;100n;100n;100n", "", "");
        Check.due("all eight", y.behind(0, 0), 255);
    }

    private static void freezing() {
        StatueCoats x = Check.town("400s;500n;600n", "65w02;51w01;41l01", "frf");
        Check.due("dressed by then", x.behind(1, 0), 0);
        Check.due("month", x.freezes(0), 2);
        Check.due("who", x.freezes(1), 2);
        Check.due("freezes 2", x.freezes(2), Check.BAD);
        Check.due("freezes -1", x.freezes(-1), Check.BAD);
        Check.retype(x, 2, "fr");
        Check.due("no frost then", x.freezes(0), Check.NONE);
        Check.due("nobody", x.freezes(1), Check.NONE);
        Check.retype(x, 0, "400s;500s;600s");
        Check.retype(x, 2, "frf");
        Check.due("nobody of the north", x.freezes(0), Check.NONE);
        StatueCoats y = Check.town("400s;500n;600n", "", "rf");
        Check.due("the month, not those behind it", y.freezes(0), 1);
        Check.due("the least", y.freezes(1), 1);
        StatueCoats z = Check.town("400n;500n", "", "f");
        Check.dueRow("the first month, the first statue", z::freezes, 0, 0, Check.BAD);
    }

    private static void changing() {
        StatueCoats x = Check.town("500n;400s", "60w09;50w02", "r.mr");
        Check.dueRow("0", m -> x.wears(m, 0), 1, 0, 0, 0, Check.NONE);
        Check.dueRow("1", m -> x.wears(m, 1), Check.NONE, 1, 1, Check.NONE, 0);
        Check.dueRow("changes", x::changes, 2, 3, Check.BAD);
        Check.due("changes -1", x.changes(-1), Check.BAD);
        x.wipe(2);
        Check.dueRow("no months", x::changes, 0, 0, Check.BAD);
    }

    /** Answers follow each act that can move them, and a fault leaves nothing behind. */
    private static void staysUpToDate() {
        StatueCoats x = Check.town("500n", "60w09", "r");
        Check.due("before", x.wears(1, 0), 0);
        x.type(2, 'r');
        Check.due("typed", x.wears(2, 0), Check.NONE);
        x.undo(2);
        Check.due("undone", x.wears(1, 0), 0);
        x.set(0, 3);
        Check.due("less slack", x.wears(1, 0), Check.NONE);
        x.set(0, 4);
        Check.due("slack", x.wears(1, 0), 0);
        x.type(1, 'x');
        Check.due("no clothes by a fault", x.wears(1, 0), Check.NONE);
        x.undo(1);
        Check.due("again", x.wears(1, 0), 0);
        x.type(0, 'x');
        Check.due("no statues by a fault", x.fits(1, 0), 0);
        x.wipe(0);
        Check.due("nobody is bare", x.behind(1, 0), 0);
    }
}
