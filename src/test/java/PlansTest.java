/** Promises 16 to 18: the most that can be dressed, a round of one ladder, the least cloth. */
public final class PlansTest {
    public static void main(String[] args) {
        most();
        mostFull();
        mostWrong();
        round();
        roundOfSix();
        roundWrong();
        sew();
        sewWrong();
        Check.end("PlansTest");
    }

    private static void most() {
        StatueCoats x = Check.town("400n;500n;900s", "51w01;53l01;52h03", "m");
        x.set(0, 13);
        Check.due("tailor", x.behind(0, 0), 4);
        Check.due("most", x.most(0, Check.NONE), 2);
        Check.dueRow("most", i -> x.most(0, i), 0, 1, -1, -1, -1, -1, -1, -1, Check.BAD);
        Check.dueRow("behind moths", i -> x.most(1, i), 1, 2, -1);
        StatueCoats y = Check.town("500n;400n", "50w01;45w01", "");
        Check.dueRow("each its own", i -> y.most(0, i), 0, 1, -1);
        StatueCoats z = Check.town("400n;500n", "50w01;45w01", "");
        z.set(0, 40);
        Check.dueRow("the first must leave the large one", i -> z.most(0, i), 1, 0, -1);
        Check.due("both", z.most(0, Check.NONE), 2);
        StatueCoats w = Check.town("500n;500n", "50w01", "");
        Check.dueRow("none is more than any", i -> w.most(0, i), 0, -1, -1);
        Check.due("one", w.most(0, Check.NONE), 1);
        StatueCoats v = Check.town("900n;500n", "50w01;51w01", "");
        Check.dueRow("a bare one takes nothing", i -> v.most(0, i), -1, 0, -1);
    }

    private static void mostFull() {
        StatueCoats x = Check.town("100n;100n;100n;100n;100n;100n;100n;100n",
            "10w01;11w01;12w01;13w01;14w01;15w01;16w01;17l09", "m");
        Check.due("all", x.most(0, Check.NONE), 8);
        Check.dueRow("the least row", i -> x.most(0, i), 0, 1, 2, 3, 4, 5, 6, 7, Check.BAD);
        Check.due("one is left", x.most(1, Check.NONE), 1);
        Check.dueRow("the first has it", i -> x.most(1, i), 7, -1, -1);
        // Fewer statues and clothes behind many must not be read from what was planned before.
        Check.retype(x, 0, "100n;200n");
        Check.retype(x, 1, "20w01");
        Check.due("one of two", x.most(0, Check.NONE), 1);
        Check.dueRow("fewer", i -> x.most(0, i), 0, -1, -1, -1, -1, -1, -1, -1);
        x.wipe(1);
        Check.due("nothing to wear", x.most(0, Check.NONE), 0);
        Check.dueRow("nothing", i -> x.most(0, i), -1, -1);
    }

    private static void mostWrong() {
        StatueCoats x = Check.town("400n", "41w01", "r");
        Check.due("most i 8", x.most(0, 8), Check.BAD);
        Check.due("most i -2", x.most(0, -2), Check.BAD);
        Check.due("most months 2", x.most(2, 0), Check.BAD);
        Check.due("most months -1", x.most(-1, 0), Check.BAD);
        Check.due("most i 7", x.most(1, 7), Check.NONE);
    }

    private static void round() {
        StatueCoats x = Check.town("140n;110n;190n", "", "");
        Check.due("free", x.round(0, 99, Check.NONE), 2 + 6 + 12);
        Check.dueRow("free", i -> x.round(0, 99, i), 1, 0, 2, -1, -1, -1, Check.BAD);
        Check.due("0 by 6", x.round(0, 6, Check.NONE), 20);
        Check.due("0 by 5", x.round(0, 5, Check.NONE), 5 + 9 + 18);
        Check.dueRow("0 by 5", i -> x.round(0, 5, i), 0, 1, 2, -1);
        Check.due("0 by 4", x.round(0, 4, Check.NONE), Check.NONE);
        Check.dueRow("by none", i -> x.round(0, 4, i), -1, -1, -1, -1, -1, -1, Check.BAD);
        Check.due("2 by 11", x.round(2, 11, Check.NONE), 2 + 11 + 17);
        Check.dueRow("2 by 11", i -> x.round(2, 11, i), 1, 2, 0);
        Check.due("2 by 10", x.round(2, 10, Check.NONE), 10 + 16 + 20);
        Check.dueRow("2 by 10", i -> x.round(2, 10, i), 2, 0, 1);
        Check.due("2 by 9", x.round(2, 9, Check.NONE), Check.NONE);
        StatueCoats y = Check.town("150n;100n;150n;100n", "", "");
        Check.dueRow("of like ones the least", i -> y.round(0, 99, i), 1, 3, 0, 2, -1);
    }

    private static void roundOfSix() {
        StatueCoats x = Check.town("100n;100n;100n;100n;100n;110n;190n;100n", "", "");
        Check.due("the first six alone", x.round(5, 99, Check.NONE), 1 + 2 + 3 + 4 + 5 + 7);
        Check.dueRow("six", i -> x.round(5, 99, i), 0, 1, 2, 3, 4, 5, Check.BAD);
        Check.due("5 by 2", x.round(5, 2, Check.NONE), 2 + 4 + 5 + 6 + 7 + 8);
        Check.dueRow("5 by 2", i -> x.round(5, 2, i), 5, 0, 1, 2, 3, 4);
        Check.due("5 by 3", x.round(5, 3, Check.NONE), 1 + 3 + 5 + 6 + 7 + 8);
        Check.due("0 by 0", x.round(0, 0, Check.NONE), Check.NONE);
        Check.due("a seventh", x.round(6, 99, Check.NONE), Check.BAD);
    }

    private static void roundWrong() {
        StatueCoats x = Check.town("100n;100n", "", "");
        Check.due("no such", x.round(2, 9, 0), Check.BAD);
        Check.due("-1", x.round(-1, 9, 0), Check.BAD);
        Check.due("time 100", x.round(0, 100, 0), Check.BAD);
        Check.due("time -1", x.round(0, -1, 0), Check.BAD);
        Check.due("i 6", x.round(0, 9, 6), Check.BAD);
        Check.due("i -2", x.round(0, 9, -2), Check.BAD);
        Check.due("i 5", x.round(0, 9, 5), Check.NONE);
    }

    private static void sew() {
        StatueCoats x = Check.town("", "50w05;30l02;20h03;50l05;10w01", "mr");
        Check.due("10", x.sew(0, 10), 16);
        Check.due("50", x.sew(0, 50), 1);
        Check.due("40", x.sew(0, 40), 18);
        Check.due("fewest of like cloth", x.sew(0, 45), 1);
        Check.due("60", x.sew(0, 60), 17);
        Check.due("80", x.sew(0, 80), 3);
        Check.due("160", x.sew(0, 160), 31);
        Check.due("161", x.sew(0, 161), Check.NONE);
        Check.due("moths take cloth", x.sew(1, 50), 1);
        Check.due("a gone one is not taken", x.sew(1, 40), 1);
        Check.due("less by rain", x.sew(2, 50), 8);
        Check.due("all that are left", x.sew(2, 144), 15);
        Check.due("no more", x.sew(2, 145), Check.NONE);
    }

    private static void sewWrong() {
        StatueCoats x = Check.town("", "99l09;99l09;99l09;99l09;99l09", "");
        Check.due("400", x.sew(0, 400), 31);
        Check.due("401", x.sew(0, 401), Check.BAD);
        Check.due("9", x.sew(0, 9), Check.BAD);
        Check.due("10", x.sew(0, 10), 1);
        Check.due("months 1", x.sew(1, 10), Check.BAD);
        Check.due("months -1", x.sew(-1, 10), Check.BAD);
        x.wipe(1);
        Check.due("no clothes", x.sew(0, 10), Check.NONE);
    }
}
