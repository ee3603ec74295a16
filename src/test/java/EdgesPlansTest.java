/** The edges of promises 16 to 18 and of the terms that they rest on, a case each. */
public final class EdgesPlansTest {
    private static final int NONE = Check.NONE, BAD = Check.BAD;
    private static final String EIGHT_STATUES = "100n;100n;100n;100n;100n;100n;100n;100n";
    private static final String EIGHT_CLOTHES = "17w01;16w01;15w01;14w01;13w01;12w01;11w01;10w01";

    public static void main(String[] args) {
        Check.cases(EdgesPlansTest.class, 16, 18);
        Check.end("EdgesPlansTest");
    }

    // ---- promise 16

    static void p16_monthsBelow0AndMoreThanThereAre() {
        Twins.bad("most", (x, n) -> x.most(n, 0), -1, 5, 24, 25);
        Twins.bad("most", (x, n) -> x.most(n, NONE), -1, 5, 24, 25);
    }

    static void p16_iBelowNoneAndAbove7() {
        Twins.bad("most", (x, n) -> x.most(0, n), -2, 8);
    }

    static void p16_iThatThereIsNotIsNone() {
        StatueCoats x = Check.town("500n", "50l01", "");
        Check.dueRow("most", i -> x.most(0, i), 0, NONE, NONE, NONE, NONE, NONE, NONE, NONE, BAD);
    }

    static void p16_noStatuesNoClothes() {
        StatueCoats x = new StatueCoats();
        Check.due("of nothing", x.most(0, NONE), 0);
        Check.dueRow("of nothing", i -> x.most(0, i), NONE, NONE, NONE, NONE, NONE, NONE, NONE, NONE, BAD);
        StatueCoats y = Check.town("500n;600n", "", "");
        Check.due("no clothes", y.most(0, NONE), 0);
        Check.due("no clothes", y.most(0, 0), NONE);
        StatueCoats z = Check.town("", "50l01", "");
        Check.due("no statues", z.most(0, NONE), 0);
        Check.due("no statues", z.most(0, 0), NONE);
    }

    static void p16_allEight() {
        StatueCoats x = Check.town(EIGHT_STATUES, EIGHT_CLOTHES, "");
        Check.due("how many", x.most(0, NONE), 8);
        Check.dueRow("the least row", i -> x.most(0, i), 0, 1, 2, 3, 4, 5, 6, 7, BAD);
    }

    static void p16_oneForEight() {
        StatueCoats x = Check.town(EIGHT_STATUES, "10l01", "");
        Check.due("how many", x.most(0, NONE), 1);
        Check.dueRow("none is more than any", i -> x.most(0, i), 0, NONE, NONE, NONE, NONE, NONE, NONE, NONE, BAD);
    }

    static void p16_eightForOne() {
        StatueCoats x = Check.town("900n;100n", EIGHT_CLOTHES, "");
        Check.due("how many", x.most(0, NONE), 1);
        Check.dueRow("the least that fits", i -> x.most(0, i), NONE, 0, NONE);
    }

    static void p16_moreThanTheTailorDresses() {
        StatueCoats x = Check.town("400n;500n", "50l01;51l01;55l01", "");
        x.set(0, 10);
        Check.dueRow("tailor", s -> x.wears(0, s), 0, 1);
        x.wipe(1);
        Check.typeAll(x, 1, "50l01;45l01");
        Check.due("each its own", x.most(0, NONE), 2);
        x.set(0, 4);
        Check.due("one", x.most(0, NONE), 1);
        x.set(0, 40);
        Check.dueRow("the first leaves the larger one", i -> x.most(0, i), 1, 0, NONE);
        StatueCoats y = Check.town("400n;500n", "50l01", "");
        Check.dueRow("of like ones the least row", i -> y.most(0, i), 0, NONE, NONE);
        StatueCoats z = Check.town("400n;500n;600n", "51l01;62l01", "");
        Check.due("two of three", z.most(0, NONE), 2);
        Check.dueRow("none is more than any, the first first", i -> z.most(0, i), 0, 1, NONE);
    }

    static void p16_aLongChainOfLeaving() {
        // Each statue but the last could take the next one's; the row in which all are dressed is one alone.
        StatueCoats x = Check.town("100n;200n;300n;400n;500n;600n;700n;800n",
            "80l01;70l01;60l01;50l01;40l01;30l01;20l01;10l01", "");
        x.set(0, 10);
        Check.due("all", x.most(0, NONE), 8);
        Check.dueRow("each its own", i -> x.most(0, i), 7, 6, 5, 4, 3, 2, 1, 0, BAD);
    }

    static void p16_noneBehindMothsAllBefore() {
        StatueCoats x = Check.town(EIGHT_STATUES, EIGHT_CLOTHES, "m");
        Check.due("behind", x.most(1, NONE), 0);
        Check.due("behind", x.most(1, 0), NONE);
        Check.due("before", x.most(0, NONE), 8);
    }

    static void p16_theWayDoesNotMatter() {
        StatueCoats x = Check.town("400n;500n", "50l01", "");
        x.set(1, 1);
        Check.due("tailor", x.wears(0, 1), 0);
        Check.dueRow("most", i -> x.most(0, i), 0, NONE, NONE);
    }

    static void p16_fewerBehindMore() {
        StatueCoats x = Check.town(EIGHT_STATUES, EIGHT_CLOTHES, "");
        x.most(0, NONE);
        Check.retype(x, 0, "100n;200n");
        Check.due("one of two", x.most(0, NONE), 1);
        Check.dueRow("fewer statues", i -> x.most(0, i), 0, NONE, NONE, NONE, NONE, NONE, NONE, NONE, BAD);
        x.wipe(0);
        Check.due("none of none", x.most(0, NONE), 0);
        Check.due("none of none", x.most(0, 0), NONE);
    }

    // ---- promise 17

    static void p17_statueBelow0AndNotThere() {
        Twins.bad("round", (x, n) -> x.round(n, 50, NONE), -1, 3, 5, 6, 7, 8);
    }

    static void p17_timeBelow0AndAbove99() {
        Twins.bad("round", (x, n) -> x.round(0, n, NONE), -1, 100, 256);
    }

    static void p17_iBelowNoneAndAbove5() {
        Twins.bad("round", (x, n) -> x.round(0, 50, n), -2, 6, 7);
    }

    static void p17_aSeventhIsBadEvenIfThere() {
        StatueCoats x = Check.town(EIGHT_STATUES, "", "");
        Check.due("the sixth", x.round(5, 99, NONE), 1 + 2 + 3 + 4 + 5 + 6);
        Check.due("the seventh", x.round(6, 99, NONE), BAD);
        Check.due("the eighth", x.round(7, 99, NONE), BAD);
    }

    static void p17_theFirstSixAlone() {
        StatueCoats x = Check.town("110n;120n;130n;140n;150n;160n;100n;100n", "", "");
        Check.due("how much", x.round(0, 99, NONE), 2 + 4 + 6 + 8 + 10 + 12);
        Check.dueRow("the row", i -> x.round(0, 99, i), 0, 1, 2, 3, 4, 5, BAD);
    }

    static void p17_noStatues() {
        Twins.refused("of nothing", StatueCoats::new, x -> x.round(0, 99, NONE), BAD);
        Twins.refused("of nothing", StatueCoats::new, x -> x.round(0, 99, 0), BAD);
    }

    static void p17_oneStatue() {
        StatueCoats x = Check.town("190n", "", "");
        Check.due("how much", x.round(0, 99, NONE), 10);
        Check.dueRow("the row", i -> x.round(0, 99, i), 0, NONE, NONE, NONE, NONE, NONE, BAD);
    }

    static void p17_time0IsByNone() {
        StatueCoats x = Check.town("100n", "", "");
        Check.due("by 0", x.round(0, 0, NONE), NONE);
        Check.dueRow("by 0", i -> x.round(0, 0, i), NONE, NONE, NONE, NONE, NONE, NONE, BAD);
        Check.due("by 1", x.round(0, 1, NONE), 1);
        Check.due("by 1", x.round(0, 1, 0), 0);
    }

    static void p17_justInTimeAndOneLess() {
        StatueCoats x = Check.town("190n", "", "");
        Check.due("by 10", x.round(0, 10, NONE), 10);
        Check.due("by 9", x.round(0, 9, NONE), NONE);
        Check.due("by 9", x.round(0, 9, 0), NONE);
    }

    static void p17_aToldTimeTurnsTheRound() {
        StatueCoats x = Check.town("110n;190n", "", "");
        Check.due("1 by 11", x.round(1, 11, NONE), 2 + 11);
        Check.dueRow("1 by 11", i -> x.round(1, 11, i), 0, 1, NONE);
        Check.due("1 by 10", x.round(1, 10, NONE), 10 + 19);
        Check.dueRow("1 by 10", i -> x.round(1, 10, i), 1, 0, NONE);
        Check.due("1 by 9", x.round(1, 9, NONE), NONE);
    }

    static void p17_time99HoldsNobodyBack() {
        StatueCoats x = Check.town("190n;100n;190n;100n;190n;100n", "", "");
        Check.due("how much", x.round(0, 99, NONE), 1 + 2 + 3 + 13 + 14 + 15);
        Check.dueRow("the row", i -> x.round(0, 99, i), 1, 3, 5, 0, 2, 4, BAD);
        Check.due("0 by 13", x.round(0, 13, NONE), 48);
        Check.due("0 by 12", x.round(0, 12, NONE), 1 + 2 + 12 + 13 + 14 + 24);
        Check.dueRow("0 by 12", i -> x.round(0, 12, i), 1, 3, 0, 2, 4, 5, BAD);
    }

    static void p17_ofLikeOnesTheLeast() {
        StatueCoats x = Check.town("100n;100n;100n;100n;100n;100n", "", "");
        Check.due("how much", x.round(5, 6, NONE), 21);
        Check.dueRow("as told", i -> x.round(5, 6, i), 0, 1, 2, 3, 4, 5, BAD);
        Check.due("as much", x.round(5, 5, NONE), 21);
        Check.dueRow("5 by 5", i -> x.round(5, 5, i), 0, 1, 2, 3, 5, 4, BAD);
        Check.dueRow("5 by 1", i -> x.round(5, 1, i), 5, 0, 1, 2, 3, 4, BAD);
    }

    static void p17_asManyStopsAsThereAre() {
        StatueCoats x = Check.town("100n;100n;100n", "", "");
        Check.dueRow("the row", i -> x.round(0, 99, i), 0, 1, 2, NONE, NONE, NONE, BAD);
    }

    static void p17_fewerStopsBehindMore() {
        StatueCoats x = Check.town(EIGHT_STATUES, "", "");
        x.round(0, 99, NONE);
        Check.retype(x, 0, "150n");
        Check.due("how much", x.round(0, 99, NONE), 6);
        Check.dueRow("the row", i -> x.round(0, 99, i), 0, NONE, NONE, NONE, NONE, NONE, BAD);
    }

    static void p17_noneWithAFault() {
        StatueCoats x = Check.town("100n;", "", "");
        Check.due("round", x.round(0, 99, NONE), BAD);
    }

    // ---- promise 18

    static void p18_monthsBelow0AndMoreThanThereAre() {
        Twins.bad("sew", (x, n) -> x.sew(n, 50), -1, 5, 24, 25);
    }

    static void p18_largeBelow10AndAbove400() {
        Twins.bad("sew", (x, n) -> x.sew(0, n), -1, 0, 9, 401);
    }

    static void p18_large10And400() {
        StatueCoats x = Check.town("", "99l01;99l01;99l01;93l01;10l01", "");
        Check.due("10", x.sew(0, 10), 1);
        Check.due("400 just so", x.sew(0, 400), 31);
        Check.retype(x, 1, "99l01;99l01;99l01;92l01;10l01");
        Check.due("a tenth too few", x.sew(0, 400), NONE);
        Check.due("399 just so", x.sew(0, 399), 31);
    }

    static void p18_justSoLargeAndATenthMore() {
        StatueCoats x = Check.town("", "50l05;10l06", "");
        Check.due("50", x.sew(0, 50), 1);
        Check.due("51", x.sew(0, 51), 3);
        Check.due("60", x.sew(0, 60), 3);
        Check.due("61", x.sew(0, 61), NONE);
    }

    static void p18_noClothes() {
        Check.due("of nothing", new StatueCoats().sew(0, 10), NONE);
        Check.due("of nothing", new StatueCoats().sew(0, 400), NONE);
    }

    static void p18_allEight() {
        StatueCoats x = Check.town("", "50l09;50l09;50l09;50l09;50l09;50l09;50l09;50l09", "");
        Check.due("all of 400", x.sew(0, 400), 255);
        Check.due("seven of 350", x.sew(0, 350), 127);
        Check.due("the last alone", Check.town("", "10l09;10l09;10l09;10l09;10l09;10l09;10l09;99l09", "").sew(0, 80), 128);
    }

    static void p18_theLeastCloth() {
        StatueCoats x = Check.town("", "50l09;25l04;25l04", "");
        Check.due("two with less", x.sew(0, 50), 6);
    }

    static void p18_ofLikeOnesTheFewest() {
        StatueCoats x = Check.town("", "25l04;25l04;50l08", "");
        Check.due("one with as much", x.sew(0, 50), 4);
    }

    static void p18_ofLikeOnesTheLeastBits() {
        StatueCoats x = Check.town("", "20l04;50l08;60l08", "");
        Check.due("the lesser bit", x.sew(0, 50), 2);
        StatueCoats y = Check.town("", "30l04;30l04;30l04;30l04", "");
        Check.due("the lesser bits", y.sew(0, 50), 3);
    }

    static void p18_goneOnesAreNotTaken() {
        StatueCoats x = Check.town("", "50w02;50l09", "m");
        Check.due("before", x.sew(0, 50), 1);
        Check.due("behind", x.sew(1, 50), 2);
        Check.due("not both", x.sew(1, 51), NONE);
    }

    static void p18_largeAndClothAsTheyAreThen() {
        StatueCoats x = Check.town("", "50w05;48l04", "rm");
        Check.due("before", x.sew(0, 49), 1);
        Check.due("behind rain", x.sew(1, 46), 2);
        Check.due("behind moths", x.sew(2, 45), 1);
        Check.due("45 and 48", x.sew(2, 93), 3);
        Check.due("no more", x.sew(2, 94), NONE);
    }
}
