/** The edges of promises 19 to 25 and of the terms that they rest on, a case each. */
public final class EdgesSeenTest {
    private static final int NONE = Check.NONE, BAD = Check.BAD;
    private static final int LEAST = Integer.MIN_VALUE, GREATEST = Integer.MAX_VALUE;
    private static final long TO_THE_48TH = 281474976710656L;
    private static final String TWELVE_MOTHS = "mmmmmmmmmmmm";

    public static void main(String[] args) {
        Check.cases(EdgesSeenTest.class, 19, 25);
        Check.end("EdgesSeenTest");
    }

    /** Eight statues, the i-th of which wears the i-th of clothes. */
    private static StatueCoats eightApart() {
        StatueCoats x = Check.town("100n;200n;300n;400n;500n;600n;700n;800n",
            "10l01;20l01;30l01;40l01;50l01;60l01;70l01;80l01", "..");
        x.set(0, 0);
        return x;
    }

    private static StatueCoats allSeen() {
        StatueCoats x = Twins.busyWithStore();
        for (int k = 2; k < 8; k++) {
            x.seen(k, k, k);
        }
        return x;
    }

    // ---- promise 19

    static void p19_monthsBelow0AndAbove24() {
        Twins.bad("seen", (x, n) -> x.seen(n, 0, 0), -1, 25, 256);
    }

    static void p19_statueBelow0AndAbove7() {
        Twins.bad("seen", (x, n) -> x.seen(0, n, 0), -1, 8, 256);
    }

    static void p19_clothBelowNoneAndAbove7() {
        Twins.bad("seen", (x, n) -> x.seen(0, 0, n), -2, 8, 255, 256);
    }

    static void p19_leastAndGreatestOfEach() {
        StatueCoats x = new StatueCoats();
        Check.due("months 0, statue 0, nothing", x.seen(0, 0, NONE), 1);
        Check.due("cloth 0", x.seen(0, 0, 0), 2);
        Check.due("months 24", x.seen(24, 0, 0), 3);
        Check.due("statue 7", x.seen(0, 7, 0), 4);
        Check.due("cloth 7", x.seen(0, 0, 7), 5);
        Check.due("all the greatest", x.seen(24, 7, 7), 6);
        Check.due("count", x.count(7), 6);
    }

    static void p19_whatThereIsNotMayBeSeen() {
        StatueCoats x = new StatueCoats();
        Check.due("nothing there", x.seen(5, 5, 5), 1);
        Check.due("no pair", x.swapped(0), 0);
    }

    static void p19_theSameAgainIsOneMore() {
        StatueCoats x = new StatueCoats();
        for (int k = 1; k <= 8; k++) {
            Check.due("the " + k + "th", x.seen(0, 0, NONE), k);
        }
    }

    static void p19_aNinthIsFull() {
        Twins.refused("a ninth", EdgesSeenTest::allSeen, x -> x.seen(0, 0, 0), Check.FULL);
    }

    static void p19_badAheadOfFull() {
        Twins.refused("months 25", EdgesSeenTest::allSeen, x -> x.seen(25, 0, 0), BAD);
        Twins.refused("months -1", EdgesSeenTest::allSeen, x -> x.seen(-1, 0, 0), BAD);
        Twins.refused("statue 8", EdgesSeenTest::allSeen, x -> x.seen(0, 8, 0), BAD);
        Twins.refused("statue -1", EdgesSeenTest::allSeen, x -> x.seen(0, -1, 0), BAD);
        Twins.refused("cloth 8", EdgesSeenTest::allSeen, x -> x.seen(0, 0, 8), BAD);
        Twins.refused("cloth -2", EdgesSeenTest::allSeen, x -> x.seen(0, 0, -2), BAD);
    }

    static void p19_theEighthCounts() {
        StatueCoats x = eightApart();
        for (int k = 0; k < 7; k++) {
            x.seen(0, 0, 0);
        }
        Check.due("seven", x.swapped(0), 21);
        Check.due("the eighth", x.seen(0, 1, 1), 8);
        Check.due("eight", x.swapped(0), 15);
    }

    // ---- promise 20

    static void p20_nothingToForget() {
        StatueCoats x = new StatueCoats();
        Check.due("forget", x.forget(), 0);
        Check.due("again", x.forget(), 0);
    }

    static void p20_oneAndAllEight() {
        StatueCoats x = new StatueCoats();
        x.seen(0, 0, 0);
        Check.due("one", x.forget(), 1);
        StatueCoats y = allSeen();
        Check.due("eight", y.forget(), 8);
        Check.due("none", y.count(7), 0);
        Check.due("again", y.forget(), 0);
    }

    static void p20_thereIsRoomAgain() {
        StatueCoats x = allSeen();
        x.forget();
        for (int k = 1; k <= 8; k++) {
            Check.due("the " + k + "th", x.seen(0, 0, 0), k);
        }
        Check.due("a ninth", x.seen(0, 0, 0), Check.FULL);
    }

    static void p20_whatWasSeenTellsNoMore() {
        StatueCoats x = eightApart();
        x.seen(0, 7, NONE);
        Check.due("no pair", x.swapped(0), 0);
        x.forget();
        Check.due("all pairs", x.swapped(0), 28);
        x.seen(0, 0, 1);
        Check.due("only what came then", x.swapped(0), 1);
    }

    // ---- promise 21

    private static StatueCoats withItems(int form, int... items) {
        StatueCoats x = Twins.busyWithStore();
        x.forget();
        x.sheet(3, form, items.length);
        for (int i = 0; i < items.length; i++) {
            x.lay(3, form, i, items[i]);
        }
        return x;
    }

    private static void reads(String name, int want, int form, int... items) {
        StatueCoats x = withItems(form, items);
        Check.due(name, x.read(3), want);
        Check.due(name + ", then count(7)", x.count(7), want);
        Check.due(name + ", then count(8)", x.count(8), 4);
    }

    static void p21_sheetBelow0AndAbove3() {
        Twins.bad("read", (x, n) -> x.read(n), -1, 4);
    }

    static void p21_aLostSheet() {
        Twins.found("never made", x -> x.read(3), 1);
        Twins.Maker maker = () -> {
            StatueCoats x = Twins.busy();
            x.lose(0);
            return x;
        };
        Twins.found("lost", maker, x -> x.read(0), Check.NULL, 1);
    }

    static void p21_noItems() {
        reads("none", 0, 0);
    }

    static void p21_asManyAsAreWhole() {
        reads("1 item", 0, 0, 0);
        reads("2 items", 0, 0, 0, 0);
        reads("3 items", 1, 0, 0, 0, 0);
        reads("5 items", 1, 1, 0, 0, 0, 0, 0);
        reads("6 items", 2, 2, 0, 0, 0, 0, 0, 0);
    }

    static void p21_23To27Items() {
        int[] want = {7, 8, 8, 8, 8};
        for (int n = 23; n <= 27; n++) {
            reads(n + " items", want[n - 23], 2, new int[n]);
        }
    }

    static void p21_aFullSheetOfSixty() {
        for (int form = 0; form < 3; form++) {
            reads("60 items", 8, form, new int[60]);
        }
    }

    static void p21_leastAndGreatestThatMayBe() {
        reads("least", 1, 2, 0, 0, -1);
        reads("greatest", 1, 2, 24, 7, 7);
    }

    static void p21_eachThatMayNotBe() {
        reads("months -1", 0, 2, -1, 0, 0);
        reads("months 25", 0, 2, 25, 0, 0);
        reads("statue -1", 0, 2, 0, -1, 0);
        reads("statue 8", 0, 2, 0, 8, 0);
        reads("cloth -2", 0, 2, 0, 0, -2);
        reads("cloth 8", 0, 2, 0, 0, 8);
        reads("far", 0, 2, GREATEST, LEAST, GREATEST);
    }

    static void p21_noneBehindOneThatMayNotBe() {
        reads("the second", 1, 0, 0, 0, 0, 25, 0, 0, 0, 0, 0);
        reads("the first", 0, 0, 0, 8, 0, 0, 0, 0);
        reads("a third that is not whole", 2, 0, 0, 0, 0, 0, 0, 0, 25, 0);
    }

    static void p21_nothingAs255InBytesAnd65535InShorts() {
        reads("byte 255", 1, 0, 0, 0, 255);
        reads("short 65535", 1, 1, 0, 0, 65535);
        reads("short 255", 0, 1, 0, 0, 255);
        reads("int 65535", 0, 2, 0, 0, 65535);
        reads("byte 256", 1, 0, 256, 256, 256);
        reads("int 256", 0, 2, 256, 0, 0);
    }

    static void p21_behindWhatWasSeen() {
        StatueCoats x = withItems(2, 0, 1, 0);
        x.seen(0, 0, 1);
        Check.due("one", x.read(3), 1);
        Check.due("two are there", x.count(7), 2);
    }

    static void p21_noMoreThanEightAreThere() {
        StatueCoats x = withItems(1, new int[60]);
        for (int k = 0; k < 7; k++) {
            x.seen(0, 0, 0);
        }
        Check.due("one has room", x.read(3), 1);
        Check.due("eight", x.count(7), 8);
        Check.due("none has room", x.read(3), 0);
        Check.due("eight", x.count(7), 8);
    }

    static void p21_theSheetStays() {
        StatueCoats x = withItems(2, 24, 7, -1);
        x.read(3);
        Check.dueRow("items", i -> x.get(3, 2, i), 24, 7, -1);
        Check.due("size", x.lose(3), 3);
    }

    static void p21_itTellsAsSeenDoes() {
        StatueCoats x = eightApart();
        x.sheet(0, 2, 6);
        int[] items = {2, 6, 7, 0, 7, 6};
        for (int i = 0; i < items.length; i++) {
            x.lay(0, 2, i, items[i]);
        }
        Check.due("read", x.read(0), 2);
        Check.due("how many", x.swapped(0), 1);
        Check.due("which", x.swapped(1), 55);
    }

    // ---- promise 22

    static void p22_whatBelow0AndAbove1() {
        Twins.bad("swapped", (x, n) -> x.swapped(n), -1, 2);
    }

    static void p22_noPairOfNoneAndOfOne() {
        Check.dueRow("none", new StatueCoats()::swapped, 0, NONE, BAD);
        Check.dueRow("one", Check.town("100n", "", "")::swapped, 0, NONE, BAD);
    }

    static void p22_onePairOfTwo() {
        Check.dueRow("two", Check.town("100n;200n", "", "")::swapped, 1, 1, BAD);
    }

    static void p22_28PairsOfEight() {
        Check.dueRow("eight", eightApart()::swapped, 28, 1, BAD);
    }

    static void p22_theGreatestPair() {
        StatueCoats x = eightApart();
        for (int s = 0; s < 6; s++) {
            x.seen(0, s, s);
        }
        Check.dueRow("by the others", x::swapped, 1, 55, BAD);
        x.seen(1, 6, 7);
        x.seen(2, 7, 6);
        Check.dueRow("by themselves too", x::swapped, 1, 55, BAD);
    }

    static void p22_theLeastPairOfTwo() {
        StatueCoats x = eightApart();
        for (int s = 0; s < 5; s++) {
            x.seen(0, s, s);
        }
        Check.dueRow("5, 6, 7", x::swapped, 3, 46, BAD);
    }

    static void p22_behindWhateverMonths() {
        StatueCoats x = eightApart();
        x.seen(0, 0, 1);
        Check.dueRow("behind none", x::swapped, 1, 1, BAD);
        x.seen(2, 0, 1);
        Check.dueRow("behind all too", x::swapped, 1, 1, BAD);
        x.seen(1, 0, 0);
        Check.dueRow("not behind one", x::swapped, 0, NONE, BAD);
    }

    static void p22_monthsThatThereAreNot() {
        StatueCoats x = eightApart();
        x.seen(3, 0, 1);
        Check.dueRow("behind three", x::swapped, 0, NONE, BAD);
        x.type(2, '.');
        Check.dueRow("now there are three", x::swapped, 1, 1, BAD);
        x.undo(2);
        Check.dueRow("and no more", x::swapped, 0, NONE, BAD);
        x.forget();
        x.seen(24, 0, 0);
        Check.dueRow("behind 24", x::swapped, 0, NONE, BAD);
    }

    static void p22_statuesThatThereAreNot() {
        StatueCoats x = Check.town("100n;200n;300n", "", "");
        x.seen(0, 3, NONE);
        Check.dueRow("statue 3", x::swapped, 0, NONE, BAD);
        Check.typeAll(x, 0, ";400n");
        Check.dueRow("now there are four", x::swapped, 6, 1, BAD);
        x.forget();
        x.seen(0, 7, NONE);
        Check.dueRow("statue 7", x::swapped, 0, NONE, BAD);
    }

    static void p22_clothesThatThereAreNot() {
        StatueCoats x = Check.town("100n;200n", "10l01", "");
        x.seen(0, 0, 1);
        Check.dueRow("cloth 1", x::swapped, 0, NONE, BAD);
    }

    static void p22_bareOnesChangeToo() {
        StatueCoats x = Check.town("100n;200n;300n", "10l01", "");
        x.seen(0, 0, NONE);
        Check.dueRow("0 was seen bare", x::swapped, 2, 1, BAD);
        x.seen(0, 2, 0);
        Check.dueRow("2 was seen dressed", x::swapped, 1, 2, BAD);
        StatueCoats y = Check.town("100n;200n", "", "");
        y.seen(0, 1, NONE);
        Check.dueRow("both bare", y::swapped, 1, 1, BAD);
    }

    static void p22_theWayMatters() {
        StatueCoats x = Check.town("400n;500n;900n", "50l01", "");
        x.seen(0, 2, 0);
        Check.due("0 wears it", x.swapped(1), 2);
        x.set(1, 1);
        Check.due("1 wears it", x.swapped(1), 10);
    }

    // ---- promise 23

    static void p23_statueBelow0AndNotThere() {
        Twins.bad("look", (x, n) -> x.look(n), -1, 3, 7, 8);
    }

    static void p23_noStatues() {
        Twins.refused("of nothing", StatueCoats::new, x -> x.look(0), BAD);
    }

    static void p23_noMonths() {
        Check.due("look", Check.town("100n;200n", "", "").look(1), 0);
    }

    static void p23_noPairs() {
        Check.due("one statue", Check.town("100n", "10w01", "mmm").look(0), 0);
        StatueCoats x = tellsBehindRain(".r");
        x.seen(24, 0, 0);
        Check.due("none by what was seen", x.look(1), 0);
    }

    /** Before rain one of three is dressed, behind it all are. */
    private static StatueCoats tellsBehindRain(String seasons) {
        StatueCoats x = Check.town("100n;200n;300n", "11w01;22w01;33w01", seasons);
        x.set(0, 1);
        return x;
    }

    static void p23_behindTheFirstAndTheLastMonth() {
        Check.due("one month", tellsBehindRain("r").look(1), 1);
        Check.due("the last of 24", tellsBehindRain(".......................r").look(1), 24);
    }

    static void p23_ofLikeOnesTheFewest() {
        Check.due("behind none as well", tellsBehindRain("...").look(1), 0);
        Check.due("behind three first", tellsBehindRain("..r..").look(1), 3);
    }

    static void p23_onePairIsAlikeEverywhere() {
        StatueCoats x = tellsBehindRain(".r");
        x.seen(0, 1, 0);
        Check.due("pairs", x.swapped(0), 1);
        Check.due("look", x.look(1), 0);
    }

    static void p23_onlyThosePairs() {
        // With 0 and 1 left as they are or changed by one pair each, 2 tells them apart only behind rain.
        StatueCoats x = tellsBehindRain(".r");
        x.seen(0, 0, NONE);
        Check.due("0 changed with 1 or 2", x.swapped(0), 2);
        Check.due("0 itself tells behind rain", x.look(0), 2);
        Check.due("1 tells at once", x.look(1), 0);
        Check.due("2 tells at once", x.look(2), 0);
    }

    static void p23_allEight() {
        StatueCoats x = eightApart();
        for (int s = 0; s < 8; s++) {
            Check.due("look at " + s, x.look(s), 0);
        }
        Check.due("no ninth", x.look(8), BAD);
    }

    static void p23_theLastOfClothesIsAlikeToo() {
        // 0 wears the first of clothes, behind moths the last: in three of six pairs it keeps its own either way.
        StatueCoats x = Check.town("100n;200n;300n;400n", "10w01;20l01;30l01;40l01;99l01;99l01;99l01;12l01", "m");
        Check.dueRow("wears", m -> x.wears(m, 0), 0, 7, BAD);
        Check.due("look", x.look(0), 0);
    }

    static void p23_theLastOfEightTellsBehindRain() {
        // By what was seen 0, 1 or 7 changed; before rain 0 and 1 are both bare.
        StatueCoats x = Check.town("100n;200n;300n;400n;500n;600n;700n;800n",
            "11w01;22w01;30l01;40l01;50l01;60l01;70l01;80l01", "r");
        x.set(0, 0);
        for (int s = 2; s < 7; s++) {
            x.seen(1, s, s);
        }
        Check.dueRow("pairs", x::swapped, 3, 1, BAD);
        Check.due("look", x.look(7), 1);
    }

    // ---- promise 24

    private static void fraction(StatueCoats x, int c, int cloth, int months, long above, long below) {
        String call = "moths(" + c + ", " + cloth + ", " + months + ", ";
        Check.due(call + "0)", x.moths(c, cloth, months, 0), above);
        Check.due(call + "1)", x.moths(c, cloth, months, 1), below);
    }

    private static void badMoths(String call, Twins.NumberedAct act, int... wrong) {
        Twins.refusedAt(call, act, Check.LONG_BAD, wrong);
        Twins.refusedAt(call, act, Check.LONG_BAD, Twins.FAR);
    }

    static void p24_badIsTheLeastLongAnd2More() {
        Check.due("BAD", new StatueCoats().moths(0, 0, 0, 0), -9223372036854775806L);
    }

    static void p24_cBelow0AndAbove16() {
        badMoths("moths", (x, n) -> x.moths(n, 0, 0, 0), -1, 17);
    }

    static void p24_clothBelow0AndNotThere() {
        badMoths("moths", (x, n) -> x.moths(5, n, 0, 0), -1, 3, 7, 8);
    }

    static void p24_monthsBelow0AndMoreThanThereAre() {
        badMoths("moths", (x, n) -> x.moths(5, 0, n, 0), -1, 5, 12, 13);
    }

    static void p24_whatBelow0AndAbove1() {
        badMoths("moths", (x, n) -> x.moths(5, 0, 0, n), -1, 2);
    }

    static void p24_monthsAbove12EvenIfThere() {
        StatueCoats x = Check.town("", "50w01", TWELVE_MOTHS + TWELVE_MOTHS);
        fraction(x, 15, 0, 12, 1, TO_THE_48TH);
        Check.due("13", x.moths(15, 0, 13, 0), Check.LONG_BAD);
        Check.due("24", x.moths(15, 0, 24, 0), Check.LONG_BAD);
    }

    static void p24_behindNone() {
        StatueCoats x = Check.town("", "50w01", TWELVE_MOTHS);
        fraction(x, 16, 0, 0, 1, 1);
        StatueCoats y = Check.town("", "50w01", "");
        fraction(y, 16, 0, 0, 1, 1);
        Check.due("there is no month", y.moths(16, 0, 1, 0), Check.LONG_BAD);
    }

    static void p24_c0IsNeverAndC16IsAlways() {
        StatueCoats x = Check.town("", "50w09;50h09;50l01", TWELVE_MOTHS);
        fraction(x, 0, 0, 12, 1, 1);
        fraction(x, 16, 0, 4, 1, 1);
        fraction(x, 16, 0, 5, 0, 1);
        fraction(x, 16, 1, 8, 1, 1);
        fraction(x, 16, 1, 9, 0, 1);
        fraction(x, 16, 1, 12, 0, 1);
        fraction(x, 16, 2, 12, 1, 1);
    }

    static void p24_lowestTerms() {
        StatueCoats x = Check.town("", "50w01", "m");
        fraction(x, 1, 0, 1, 15, 16);
        fraction(x, 2, 0, 1, 7, 8);
        fraction(x, 4, 0, 1, 3, 4);
        fraction(x, 6, 0, 1, 5, 8);
        fraction(x, 8, 0, 1, 1, 2);
        fraction(x, 15, 0, 1, 1, 16);
    }

    static void p24_exactlyBehindTwelve() {
        StatueCoats x = Check.town("", "50w01;50h09;50w09;50h01;50w02;50h05", TWELVE_MOTHS);
        fraction(x, 1, 0, 12, 129746337890625L, TO_THE_48TH);
        fraction(x, 3, 1, 12, 281464776330517L, TO_THE_48TH);
        fraction(x, 15, 1, 12, 1415103663781L, TO_THE_48TH);
        fraction(x, 5, 2, 12, 97107359758453L, TO_THE_48TH / 2);
        fraction(x, 7, 3, 12, 282429536481L, TO_THE_48TH);
        fraction(x, 15, 4, 12, 1, TO_THE_48TH);
        fraction(x, 2, 5, 12, 33971972293L, 34359738368L);
    }

    static void p24_cloth9NeedsFiveOrNine() {
        StatueCoats x = Check.town("", "50w09;50h09", TWELVE_MOTHS);
        fraction(x, 1, 0, 4, 1, 1);
        fraction(x, 1, 0, 5, 1048575, 1048576);
        fraction(x, 15, 0, 5, 289201, 1048576);
        fraction(x, 15, 1, 8, 1, 1);
        fraction(x, 15, 1, 9, 30276117361L, 68719476736L);
    }

    static void p24_otherMonthsBringNoMoths() {
        StatueCoats x = Check.town("", "50w01", "rfs.rfs.rfsm");
        fraction(x, 8, 0, 11, 1, 1);
        fraction(x, 8, 0, 12, 1, 2);
    }

    static void p24_theTwelfthMonthCountsTheThirteenthNot() {
        StatueCoats x = Check.town("", "50w01", "............m");
        fraction(x, 16, 0, 12, 1, 1);
        Check.retype(x, 2, "...........m.");
        fraction(x, 16, 0, 12, 0, 1);
    }

    static void p24_noneOfClothesWithAFault() {
        StatueCoats x = Check.town("", "50w01;", "m");
        Check.due("moths", x.moths(1, 0, 0, 0), Check.LONG_BAD);
    }

    // ---- promise 25

    static void p25_nBelow1AndAbove40() {
        Twins.bad("weather", (x, n) -> x.weather(7, n, 0), -1, 0, 41);
        Twins.bad("weather", (x, n) -> x.weather(7, n, NONE), -1, 0, 41);
    }

    static void p25_clothBelowNoneAndNotThere() {
        Twins.bad("weather", (x, n) -> x.weather(7, 9, n), -2, 3, 7, 8);
    }

    private static StatueCoats threeStuffs() {
        return Check.town("", "99w99;99h99;99l99", "");
    }

    private static void large(int seed, int n, int wool, int half) {
        StatueCoats x = threeStuffs();
        Check.due("wool by " + seed + " behind " + n, x.weather(seed, n, 0), wool);
        Check.due("half by " + seed + " behind " + n, x.weather(seed, n, 1), half);
        Check.due("linen by " + seed + " behind " + n, x.weather(seed, n, 2), 99);
    }

    static void p25_n1And2() {
        large(1, 1, 99, 99);
        large(1, 2, 90, 95);
        large(0, 1, 99, 99);
        large(0, 2, 90, 95);
    }

    static void p25_n40() {
        large(0, 40, 54, 76);
        large(1, 40, 66, 73);
        large(7, 39, 54, 70);
        large(7, 40, 54, 67);
    }

    static void p25_theLeastAndTheGreatestSeed() {
        large(LEAST, 9, 81, 91);
        large(LEAST, 40, 31, 58);
        large(GREATEST, 9, 81, 91);
        large(GREATEST, 40, 41, 67);
        large(-1, 9, 81, 91);
        large(-1, 40, 81, 87);
    }

    static void p25_upperBitsAreFrom0On() {
        // The first lots by these seeds, of ints whose highest bit is set and not.
        StatueCoats x = Check.town("501n;601n", "50w11;60l11", "");
        Check.due("moths by the greatest", x.weather(GREATEST, 1, NONE), 1);
        Check.due("sun by the least", x.weather(LEAST, 1, NONE), 1);
        Check.due("frost by -1", x.weather(-1, 1, NONE), 2);
        Check.due("moths next", x.weather(-1, 2, NONE), 1);
    }

    static void p25_eachLotBringsItsOwn() {
        int[] seeds = {0, 1, 7, GREATEST};
        int[] lots = {0, 3, 2, 4};
        StatueCoats x = Check.town("501n;601n", "50w11;60l11", "");
        for (int k = 0; k < seeds.length; k++) {
            int dressed = lots[k] == 3 || lots[k] == 4 ? 1 : 2;
            Check.due("lot " + lots[k], x.weather(seeds[k], 1, NONE), dressed);
        }
    }

    static void p25_aGoneOneStaysAsLarge() {
        StatueCoats x = Check.town("", "99w02", "");
        Check.due("gone at once by the greatest", x.weather(GREATEST, 40, 0), 99);
    }

    static void p25_noStatuesNoClothes() {
        StatueCoats x = new StatueCoats();
        Check.due("nobody", x.weather(7, 9, NONE), 0);
        Check.due("no cloth", x.weather(7, 9, 0), BAD);
        Check.due("no clothes", Check.town("100n", "", "").weather(7, 9, NONE), 0);
        Check.due("no statues", Check.town("", "10l01", "").weather(7, 9, NONE), 0);
    }

    static void p25_allEight() {
        Check.due("all dressed", eightApart().weather(7, 40, NONE), 8);
        Check.due("the last", eightApart().weather(7, 40, 7), 80);
    }

    static void p25_seasonsDoNotMatter() {
        StatueCoats x = threeStuffs();
        int before = x.weather(7, 9, 0);
        Check.due("no seasons", before, 81);
        Check.typeAll(x, 2, "rrrrmmmm");
        Check.due("seasons", x.weather(7, 9, 0), 81);
        x.type(2, '?');
        Check.due("a fault", x.weather(7, 9, 0), 81);
    }

    static void p25_slackAndWayMatter() {
        StatueCoats x = Check.town("400n;500n", "50l01;60l01", "");
        Check.due("both", x.weather(0, 1, NONE), 2);
        x.set(0, 9);
        Check.due("one", x.weather(0, 1, NONE), 1);
        x.set(0, 15);
        x.set(1, 1);
        Check.due("the larger one takes what alone fits the lesser", x.weather(0, 1, NONE), 1);
    }

    static void p25_itChangesNothing() {
        Twins.refused("weather", x -> x.weather(LEAST, 40, 0) * 0 + x.weather(GREATEST, 40, NONE) * 0, 0);
    }

    static void p25_behindAll24MonthsAllStays() {
        StatueCoats x = Check.town("100n", "99w09;12l01", "rrrrrrrrrrrrrrrrrrrrrrrr");
        x.set(0, 2);
        for (int k = 0; k < 2; k++) {
            Check.due("behind 23", x.is(23, 0, 0), 13);
            Check.due("behind 24", x.is(24, 0, 0), 12);
            Check.due("wears behind 24", x.wears(24, 0), 0);
            Check.due("wears behind 23", x.wears(23, 0), 1);
            x.weather(7, 40, 0);
            x.weather(GREATEST, 1, NONE);
        }
    }

    static void p25_theSameSeedTheSameAnswer() {
        StatueCoats x = threeStuffs();
        for (int k = 0; k < 3; k++) {
            Check.due("again", x.weather(7, 40, 1), 67);
        }
    }
}
