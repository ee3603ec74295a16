/** The edges of promises 10 to 15 and of the terms that they rest on, a case each. */
public final class EdgesMonthsTest {
    private static final int NONE = Check.NONE, BAD = Check.BAD;
    private static final String ALL_RAIN = "rrrrrrrrrrrrrrrrrrrrrrrr";
    private static final String EIGHT_STATUES = "100n;100n;100n;100n;100n;100n;100n;100n";
    private static final String EIGHT_CLOTHES = "17w01;16w01;15w01;14w01;13w01;12w01;11w01;10w01";

    public static void main(String[] args) {
        Check.cases(EdgesMonthsTest.class, 10, 15);
        Check.end("EdgesMonthsTest");
    }

    // ---- terms: what months bring

    static void terms_rain_woolByATenthCut() {
        StatueCoats x = Check.town("", "99w01;10w01;11w01;19w01;20w01", "rr");
        Check.dueRow("behind one", c -> x.is(1, c, 0), 90, 9, 10, 18, 18, BAD);
        Check.dueRow("behind two", c -> x.is(2, c, 0), 81, 9, 9, 17, 17, BAD);
    }

    static void terms_rain_woolBelow10LosesNoMore() {
        StatueCoats x = Check.town("", "10w01", ALL_RAIN);
        Check.due("behind one", x.is(1, 0, 0), 9);
        Check.due("behind all", x.is(24, 0, 0), 9);
    }

    static void terms_rain_halfByATwentiethCut() {
        StatueCoats x = Check.town("", "99h01;19h01;20h01;39h01;40h01", "rr");
        Check.dueRow("behind one", c -> x.is(1, c, 0), 95, 19, 19, 38, 38, BAD);
        Check.dueRow("behind two", c -> x.is(2, c, 0), 91, 19, 19, 37, 37, BAD);
    }

    static void terms_rain_linenStays() {
        StatueCoats x = Check.town("", "99l01;10l01", ALL_RAIN);
        Check.dueRow("behind all", c -> x.is(24, c, 0), 99, 10, BAD);
    }

    static void terms_rain_takesNoButtonsNoCloth() {
        StatueCoats x = Check.town("", "99w91;99l91;99h91", "r");
        for (int cloth = 0; cloth < 3; cloth++) {
            Check.due("buttons", x.is(1, cloth, 1), 9);
            Check.due("cloth", x.is(1, cloth, 2), 1);
        }
    }

    static void terms_sun_linenLosesAButtonIfItHasAny() {
        StatueCoats x = Check.town("", "50l01;50l11;50l91", "ss");
        Check.dueRow("behind one", c -> x.is(1, c, 1), 0, 0, 8, BAD);
        Check.dueRow("behind two", c -> x.is(2, c, 1), 0, 0, 7, BAD);
    }

    static void terms_sun_woolAndHalfKeepThem() {
        StatueCoats x = Check.town("", "50w91;50h11", "ss");
        Check.dueRow("behind two", c -> x.is(2, c, 1), 9, 1, BAD);
    }

    static void terms_sun_takesNothingElse() {
        StatueCoats x = Check.town("", "99w91;99l91;99h91", "s");
        for (int cloth = 0; cloth < 3; cloth++) {
            Check.due("large", x.is(1, cloth, 0), 99);
            Check.due("cloth", x.is(1, cloth, 2), 1);
        }
    }

    static void terms_moths_woolLoses2() {
        StatueCoats x = Check.town("", "50w01;50w02;50w03;50w09", "mmmmm");
        Check.dueRow("of 1", m -> x.is(m, 0, 2), 1, 0, 0);
        Check.dueRow("of 2", m -> x.is(m, 1, 2), 2, 0, 0);
        Check.dueRow("of 3", m -> x.is(m, 2, 2), 3, 1, 0);
        Check.dueRow("of 9", m -> x.is(m, 3, 2), 9, 7, 5, 3, 1, 0, BAD);
    }

    static void terms_moths_halfLoses1() {
        StatueCoats x = Check.town("", "50h01;50h02;50h09", "mmmmmmmmm");
        Check.dueRow("of 1", m -> x.is(m, 0, 2), 1, 0, 0);
        Check.dueRow("of 2", m -> x.is(m, 1, 2), 2, 1, 0, 0);
        Check.dueRow("of 9", m -> x.is(m, 2, 2), 9, 8, 7, 6, 5, 4, 3, 2, 1, 0, BAD);
    }

    static void terms_moths_linenLosesNone() {
        StatueCoats x = Check.town("", "50l01", "mmmmmmmmmmmmmmmmmmmmmmmm");
        Check.due("cloth", x.is(24, 0, 2), 1);
        Check.due("gone", x.behind(24, 1), 0);
    }

    static void terms_moths_takeNothingElse() {
        StatueCoats x = Check.town("", "99w99;99l99;99h99", "m");
        for (int cloth = 0; cloth < 3; cloth++) {
            Check.due("large", x.is(1, cloth, 0), 99);
            Check.due("buttons", x.is(1, cloth, 1), 9);
        }
    }

    static void terms_gone_withNoneLeft() {
        StatueCoats x = Check.town("", "50w01;50w02;50w03;50h01;50h02;50l01", "mm");
        Check.dueRow("gone", m -> x.behind(m, 1), 0, 1 + 2 + 8, 1 + 2 + 4 + 8 + 16, BAD);
    }

    static void terms_gone_rainLeavesItAsItWas() {
        StatueCoats x = Check.town("", "60w01;60h01;60w03", "mrr");
        Check.dueRow("wool", m -> x.is(m, 0, 0), 60, 60, 60, 60);
        Check.dueRow("half", m -> x.is(m, 1, 0), 60, 60, 60, 60);
        Check.dueRow("with one left", m -> x.is(m, 2, 0), 60, 60, 54, 49);
    }

    static void terms_frostAndNothingChangeNothing() {
        StatueCoats x = Check.town("", "99w91;99l91;99h91", "f.");
        for (int cloth = 0; cloth < 3; cloth++) {
            int c = cloth;
            Check.dueRow("large", m -> x.is(m, c, 0), 99, 99, 99, BAD);
            Check.dueRow("buttons", m -> x.is(m, c, 1), 9, 9, 9, BAD);
            Check.dueRow("cloth", m -> x.is(m, c, 2), 1, 1, 1, BAD);
        }
    }

    // ---- terms: fits

    private static void fitting(String name, int slack, String statue, String clothes, long... want) {
        StatueCoats x = Check.town(statue, clothes, "");
        x.set(0, slack);
        Check.dueRow(name, c -> x.fits(0, c), want);
    }

    static void terms_fits_justAsLargeAndATenthLess() {
        fitting("ten times its size", 15, "500n", "49l01;50l01;51l01", 0, 1, 1);
    }

    static void terms_fits_withAllOfSlackAndATenthMore() {
        fitting("slack 15", 15, "500n", "64l01;65l01;66l01", 1, 1, 0);
    }

    static void terms_fits_slack0() {
        fitting("slack 0", 0, "500n", "49l01;50l01;51l01", 0, 1, 0);
    }

    static void terms_fits_slack1() {
        fitting("slack 1", 1, "500n", "49l01;50l01;51l01;52l01", 0, 1, 1, 0);
    }

    static void terms_fits_slack40() {
        fitting("slack 40", 40, "500n", "49l01;50l01;90l01;91l01", 0, 1, 1, 0);
    }

    static void terms_fits_theLeastSize() {
        fitting("size 1", 15, "100n", "10l01;25l01;26l01", 1, 1, 0);
        StatueCoats x = Check.town("100n", "10w01", "r");
        Check.due("9 tenths", x.fits(1, 0), 0);
    }

    static void terms_fits_theGreatestSize() {
        fitting("size 9", 40, "900n", "89l01;90l01;99l01", 0, 1, 1);
    }

    static void terms_fits_justAsManyButtonsAndOneFewer() {
        fitting("9", 15, "509n", "50l81;50l91", 0, 1);
        fitting("1", 15, "501n", "50l01;50l11;50l21", 0, 1, 1);
        fitting("0", 15, "500n", "50l01;50l91", 1, 1);
    }

    static void terms_fits_buttonsThatAreLeft() {
        StatueCoats x = Check.town("501n", "50l21", "sss");
        Check.dueRow("linen in sun", m -> x.fits(m, 0), 1, 1, 0, 0, BAD);
    }

    static void terms_fits_aGoneOneFitsNobody() {
        StatueCoats x = Check.town("500n", "50w02;50w03;50h01", "m");
        Check.dueRow("before", c -> x.fits(0, c), 1, 1, 1);
        Check.dueRow("behind moths", c -> x.fits(1, c), 0, 1, 0);
    }

    // ---- terms: the tailor's way

    static void terms_way0_asTold() {
        StatueCoats x = Check.town("400n;500n", "50l01", "");
        Check.dueRow("wears", s -> x.wears(0, s), 0, NONE, BAD);
    }

    static void terms_way1_largerOnesFirst() {
        StatueCoats x = Check.town("400n;500n", "50l01", "");
        x.set(1, 1);
        Check.dueRow("wears", s -> x.wears(0, s), NONE, 0, BAD);
    }

    static void terms_way1_ofLikeOnesAsTold() {
        StatueCoats x = Check.town("400n;500s;500n", "50l01", "");
        x.set(1, 1);
        Check.dueRow("wears", s -> x.wears(0, s), NONE, 0, NONE, BAD);
    }

    static void terms_way1_fromSize9ToSize1() {
        StatueCoats x = Check.town("100n;900n;200n;800n", "90l01;20l01", "");
        x.set(0, 40);
        x.set(1, 1);
        Check.dueRow("wears", s -> x.wears(0, s), NONE, 0, 1, NONE, BAD);
        x.wipe(1);
        Check.typeAll(x, 1, "90l01;20l01;21l01;92l01");
        Check.dueRow("all", s -> x.wears(0, s), 2, 0, 1, 3, BAD);
    }

    static void terms_wears_theLeastLarge() {
        StatueCoats x = Check.town("500n", "52l01;51l01;53l01", "");
        Check.due("wears", x.wears(0, 0), 1);
    }

    static void terms_wears_ofLikeOnesTheLeast() {
        StatueCoats x = Check.town("500n;500n", "52l01;51l01;51l01", "");
        Check.dueRow("wears", s -> x.wears(0, s), 1, 2, BAD);
    }

    static void terms_wears_whatIsNotWornYet() {
        StatueCoats x = Check.town("500n;500n;500n;500n", "52l01;51l01;51l01", "");
        Check.dueRow("wears", s -> x.wears(0, s), 1, 2, 0, NONE, BAD);
    }

    static void terms_wears_eightByEight() {
        StatueCoats x = Check.town(EIGHT_STATUES, EIGHT_CLOTHES, "m");
        Check.dueRow("all dressed", s -> x.wears(0, s), 7, 6, 5, 4, 3, 2, 1, 0, BAD);
        Check.dueRow("all bare", s -> x.wears(1, s), NONE, NONE, NONE, NONE, NONE, NONE, NONE, NONE, BAD);
    }

    static void terms_freezes_onlyTheNorth() {
        StatueCoats x = Check.town("500s;500s", "", "f");
        Check.due("south", x.freezes(0), NONE);
        StatueCoats y = Check.town("500s;500n", "", "f");
        Check.due("north", y.freezes(0), 0);
        Check.due("who", y.freezes(1), 1);
    }

    static void terms_freezes_onlyTheBare() {
        StatueCoats x = Check.town("500n", "50l01", "f");
        Check.due("dressed", x.freezes(0), NONE);
    }

    static void terms_freezes_onlyInFrost() {
        StatueCoats x = Check.town("500n", "", "rsm.");
        Check.due("no frost", x.freezes(0), NONE);
    }

    static void terms_freezes_asAllIsBehindThatMonth() {
        StatueCoats x = Check.town("500n", "50w01", "fmf");
        Check.due("month", x.freezes(0), 2);
        Check.retype(x, 2, "fm");
        Check.due("bare too late", x.freezes(0), NONE);
        Check.retype(x, 1, "54w01");
        Check.retype(x, 2, "rf");
        Check.due("bare behind rain", x.freezes(0), 1);
    }

    // ---- promise 10

    static void p10_monthsBelow0AndMoreThanThereAre() {
        Twins.bad("is", (x, n) -> x.is(n, 0, 0), -1, 5, 24, 25);
    }

    static void p10_clothBelow0AndNotThere() {
        Twins.bad("is", (x, n) -> x.is(0, n, 0), -1, 3, 7, 8);
    }

    static void p10_whatBelow0AndAbove2() {
        Twins.bad("is", (x, n) -> x.is(0, 0, n), -1, 3);
    }

    static void p10_behindNoneAndBehindAll() {
        StatueCoats x = Twins.busy();
        Check.dueRow("behind none", what -> x.is(0, 0, what), 55, 2, 1, BAD);
        Check.dueRow("behind all", what -> x.is(4, 0, what), 50, 2, 0, BAD);
        Check.dueRow("linen behind all", what -> x.is(4, 1, what), 45, 2, 2, BAD);
        Check.dueRow("half behind all", what -> x.is(4, 2, what), 32, 1, 0, BAD);
    }

    static void p10_noMonthsAtAll() {
        StatueCoats x = Check.town("", "99w99", "");
        Check.dueRow("large", m -> x.is(m, 0, 0), 99, BAD);
    }

    static void p10_behindAll24() {
        StatueCoats x = Check.town("", "99w01", ALL_RAIN);
        Check.dueRow("large", m -> x.is(m, 0, 0), 99, 90, 81, 73, 66, 60, 54, 49, 45, 41, 37, 34, 31, 28, 26, 24, 22, 20,
            18, 17, 16, 15, 14, 13, 12, BAD);
    }

    static void p10_theLastOfEight() {
        StatueCoats x = Check.town("", EIGHT_CLOTHES, "r");
        Check.dueRow("cloth 7", m -> x.is(m, 7, 0), 10, 9, BAD);
        Check.due("cloth 8", x.is(0, 8, 0), BAD);
    }

    // ---- promise 11

    static void p11_monthsBelow0AndMoreThanThereAre() {
        Twins.bad("fits", (x, n) -> x.fits(n, 0), -1, 5, 24, 25);
    }

    static void p11_clothBelow0AndNotThere() {
        Twins.bad("fits", (x, n) -> x.fits(0, n), -1, 3, 7, 8);
    }

    static void p11_allEightAndNone() {
        StatueCoats x = Check.town(EIGHT_STATUES, "10l01;99l01", "");
        Check.due("all", x.fits(0, 0), 255);
        Check.due("none", x.fits(0, 1), 0);
    }

    static void p11_theLastOfEight() {
        StatueCoats x = Check.town("200n;200n;200n;200n;200n;200n;200n;100n", "10l01", "");
        Check.due("the eighth bit", x.fits(0, 0), 128);
    }

    static void p11_noStatues() {
        Check.due("nobody", Check.town("", "10l01", "").fits(0, 0), 0);
    }

    static void p11_wornOrNotItFits() {
        StatueCoats x = Check.town("500n;500n", "50l01;51l01", "");
        Check.dueRow("fits", c -> x.fits(0, c), 3, 3, BAD);
    }

    // ---- promise 12

    static void p12_monthsBelow0AndMoreThanThereAre() {
        Twins.bad("wears", (x, n) -> x.wears(n, 0), -1, 5, 24, 25);
    }

    static void p12_statueBelow0AndNotThere() {
        Twins.bad("wears", (x, n) -> x.wears(0, n), -1, 3, 7, 8);
    }

    static void p12_noneWhereNothingFits() {
        Check.due("bare", Check.town("500n", "49l01", "").wears(0, 0), NONE);
        Check.due("no clothes", Check.town("500n", "", "").wears(0, 0), NONE);
    }

    static void p12_theLastOfAll() {
        StatueCoats x = Check.town("900n;900n;900n;900n;900n;900n;900n;100n",
            "50l01;50l01;50l01;50l01;50l01;50l01;50l01;10l01", ALL_RAIN);
        Check.due("behind none", x.wears(0, 7), 7);
        Check.due("behind all", x.wears(24, 7), 7);
        Check.due("behind more", x.wears(25, 7), BAD);
    }

    // ---- promise 13

    static void p13_monthsBelow0AndMoreThanThereAre() {
        Twins.bad("bare", (x, n) -> x.behind(n, 0), -1, 5, 24, 25);
        Twins.bad("gone", (x, n) -> x.behind(n, 1), -1, 5, 24, 25);
    }

    static void p13_whatBelow0AndAbove1() {
        Twins.bad("behind", (x, n) -> x.behind(0, n), -1, 2);
    }

    static void p13_allBareAndNobody() {
        StatueCoats x = Check.town(EIGHT_STATUES, EIGHT_CLOTHES, "m");
        Check.dueRow("bare", m -> x.behind(m, 0), 0, 255, BAD);
    }

    static void p13_allGoneAndNone() {
        StatueCoats x = Check.town(EIGHT_STATUES, EIGHT_CLOTHES, "m");
        Check.dueRow("gone", m -> x.behind(m, 1), 0, 255, BAD);
    }

    static void p13_ofNothingNothing() {
        StatueCoats x = new StatueCoats();
        Check.dueRow("of nothing", what -> x.behind(0, what), 0, 0, BAD);
    }

    static void p13_theLastBitAlone() {
        StatueCoats x = Check.town("100n;100n;100n;100n;100n;100n;100n;900n",
            "10l01;10l01;10l01;10l01;10l01;10l01;10l01;10w01", "m");
        Check.due("bare", x.behind(0, 0), 128);
        Check.due("gone", x.behind(1, 1), 128);
    }

    // ---- promise 14

    static void p14_whatBelow0AndAbove1() {
        Twins.bad("freezes", (x, n) -> x.freezes(n), -1, 2);
    }

    static void p14_theFirstMonthAndTheLast() {
        StatueCoats x = Check.town("500n", "", "ffffffffffffffffffffffff");
        Check.dueRow("the first", x::freezes, 0, 0, BAD);
        Check.retype(x, 2, ".......................f");
        Check.dueRow("the last", x::freezes, 23, 0, BAD);
    }

    static void p14_theLeastAndTheLastOfEight() {
        StatueCoats x = Check.town("500s;500n;500n;500n;500n;500n;500n;500n", "", "f");
        Check.due("the least", x.freezes(1), 1);
        Check.retype(x, 0, "500s;500s;500s;500s;500s;500s;500s;500n");
        Check.due("the last", x.freezes(1), 7);
    }

    static void p14_whoIsOfTheFirstMonthAlone() {
        StatueCoats x = Check.town("500n;400n", "50l11;40w01", "fmf");
        Check.dueRow("later", x::freezes, 2, 1, BAD);
        Check.retype(x, 1, "40w01");
        Check.dueRow("the first", x::freezes, 0, 0, BAD);
    }

    static void p14_noneOfNothing() {
        Check.dueRow("new", new StatueCoats()::freezes, NONE, NONE, BAD);
        Check.dueRow("no months", Check.town("500n", "", "")::freezes, NONE, NONE, BAD);
        Check.dueRow("no statues", Check.town("", "", "f")::freezes, NONE, NONE, BAD);
    }

    // ---- promise 15

    static void p15_statueBelow0AndNotThere() {
        Twins.bad("changes", (x, n) -> x.changes(n), -1, 3, 7, 8);
    }

    static void p15_noMonths() {
        Check.due("changes", Check.town("500n", "50l01", "").changes(0), 0);
    }

    static void p15_bareOrNotToo() {
        StatueCoats x = Check.town("500n", "60w09", "rrr");
        x.set(0, 4);
        Check.dueRow("wears", m -> x.wears(m, 0), NONE, 0, NONE, NONE, BAD);
        Check.due("changes", x.changes(0), 2);
    }

    static void p15_fromTheFirstMonthOn() {
        StatueCoats x = Check.town("500n", "50w01", "m");
        Check.due("behind 1", x.changes(0), 1);
    }

    static void p15_toTheLastMonth() {
        StatueCoats x = Check.town("500n", "50w01", ".......................m");
        Check.due("behind 24", x.changes(0), 1);
    }

    static void p15_fromOneToAnother() {
        StatueCoats x = Check.town("500n", "50w01;51l01", "m.");
        Check.dueRow("wears", m -> x.wears(m, 0), 0, 1, 1, BAD);
        Check.due("changes", x.changes(0), 1);
    }

    static void p15_theLastOfEight() {
        StatueCoats x = Check.town(EIGHT_STATUES, EIGHT_CLOTHES, "m");
        Check.due("changes", x.changes(7), 1);
        Check.due("no ninth", x.changes(8), BAD);
    }
}
