/** The edges of promises 1 to 9 and of the terms that they rest on, a case each. */
public final class EdgesTextsTest {
    private static final int LEAST = Integer.MIN_VALUE, GREATEST = Integer.MAX_VALUE;
    private static final int[] MOST = {39, 47, 24};
    private static final String EIGHT_STATUES = "100n;991s;200n;892s;300n;793s;400n;699s";
    private static final String EIGHT_CLOTHES = "10w01;99l99;20h12;89w38;30l13;79h47;40w24;69l56";
    private static final String ALL_MONTHS = "rfsm.rfsm.rfsm.rfsm.rfsm";

    public static void main(String[] args) {
        Check.cases(EdgesTextsTest.class, 1, 9);
        Check.end("EdgesTextsTest");
    }

    // ---- the public face, and what it is

    static void face_values() {
        Check.due("NONE", StatueCoats.NONE, -1);
        Check.due("BAD", StatueCoats.BAD, -2);
        Check.due("NOT", StatueCoats.NOT, -3);
        Check.due("FULL", StatueCoats.FULL, -4);
    }

    static void face_refusalsAnswerTheseValues() {
        StatueCoats x = new StatueCoats();
        Check.due("NONE", x.fault(0), StatueCoats.NONE);
        Check.due("BAD", x.fault(3), StatueCoats.BAD);
        Check.due("NOT", x.undo(0), StatueCoats.NOT);
        Check.typeAll(x, 2, ALL_MONTHS);
        Check.due("FULL", x.type(2, 'r'), StatueCoats.FULL);
    }

    static void face_theLastOf512CallsAnswers() {
        StatueCoats x = new StatueCoats();
        for (int call = 1; call <= 510; call++) {
            Check.due("call " + call, x.set(0, call % 41), call == 1 ? 15 : (call - 1) % 41);
        }
        Check.due("call 511", x.type(0, '9'), 1);
        Check.due("call 512", x.count(6), 510 % 41);
    }

    static void face_512CallsOfOneTextBothWays() {
        StatueCoats x = new StatueCoats();
        for (int call = 0; call < 512; call++) {
            int step = call % 48;
            Check.due("call " + call, step < 24 ? x.type(2, 'r') : x.undo(2), step < 24 ? step + 1 : 47 - step);
        }
    }

    // ---- terms: statues

    private static void fault(int text, String bytes, int want) {
        StatueCoats x = new StatueCoats();
        Check.typeAll(x, text, bytes);
        Check.due("fault of \"" + bytes + "\"", x.fault(text), want);
        if (want != Check.NONE) {
            Check.due("things of \"" + bytes + "\"", x.count(text), 0);
        }
    }

    private static void well(int text, String bytes, int things) {
        StatueCoats x = new StatueCoats();
        Check.typeAll(x, text, bytes);
        Check.due("fault of \"" + bytes + "\"", x.fault(text), Check.NONE);
        Check.due("things of \"" + bytes + "\"", x.count(text), things);
    }

    /** At one place of a text just some bytes of all 256 go on. */
    private static void goesOn(int text, String ahead, String bytes, String rest) {
        for (int b = 0; b <= 255; b++) {
            boolean isOne = bytes.indexOf(b) >= 0;
            StatueCoats x = new StatueCoats();
            Check.typeAll(x, text, ahead);
            x.type(text, b);
            Check.typeAll(x, text, rest);
            Check.due("fault with byte " + b + " behind \"" + ahead + "\"", x.fault(text), isOne ? -1 : ahead.length());
        }
    }

    static void terms_statues_size1To9() {
        goesOn(0, "", "123456789", "00n");
    }

    static void terms_statues_place0To9() {
        goesOn(0, "1", "0123456789", "0n");
    }

    static void terms_statues_buttons0To9() {
        goesOn(0, "10", "0123456789", "n");
    }

    static void terms_statues_northOrSouth() {
        goesOn(0, "100", "ns", "");
    }

    static void terms_statues_betweenThem() {
        goesOn(0, "100n", ";", "900s");
    }

    static void terms_statues_theLastOfEight() {
        String seven = "100n;100n;100n;100n;100n;100n;100n";
        goesOn(0, seven, ";", "900s");
        goesOn(0, seven + ";", "123456789", "99s");
        goesOn(0, seven + ";900", "ns", "");
    }

    static void terms_statues_eightAreTold() {
        well(0, EIGHT_STATUES, 8);
    }

    static void terms_statues_aNinthHasNoRoom() {
        StatueCoats x = Check.town(EIGHT_STATUES, "", "");
        Check.due("; behind eight", x.type(0, ';'), Check.FULL);
        Check.due("still well", x.fault(0), Check.NONE);
        Check.due("still eight", x.count(0), 8);
    }

    // ---- terms: clothes

    static void terms_clothes_firstFigureOfLarge() {
        fault(1, "/", 0);
        fault(1, ":", 0);
        fault(1, "w", 0);
        well(1, "10w01", 1);
        well(1, "90w01", 1);
    }

    static void terms_clothes_large9IsAFaultOfTheSecondFigure() {
        fault(1, "09w01", 1);
        fault(1, "00w01", 1);
        fault(1, "10w01;09w01", 7);
    }

    static void terms_clothes_large10And99() {
        well(1, "10w01", 1);
        well(1, "99w01", 1);
    }

    static void terms_clothes_secondFigureOfLarge() {
        goesOn(1, "1", "0123456789", "w01");
    }

    static void terms_clothes_woolLinenHalf() {
        goesOn(1, "10", "wlh", "01");
    }

    static void terms_clothes_buttons0To9() {
        goesOn(1, "10w", "0123456789", "1");
    }

    static void terms_clothes_cloth1To9() {
        goesOn(1, "10w0", "123456789", "");
    }

    static void terms_clothes_betweenThem() {
        goesOn(1, "10w01", ";", "99h99");
    }

    static void terms_clothes_theLastOfEight() {
        String seven = "10w01;10w01;10w01;10w01;10w01;10w01;10w01";
        goesOn(1, seven, ";", "99h99");
        goesOn(1, seven + ";1", "0123456789", "h99");
        goesOn(1, seven + ";99h9", "123456789", "");
    }

    static void terms_clothes_eightAreTold() {
        well(1, EIGHT_CLOTHES, 8);
    }

    static void terms_clothes_aNinthHasNoRoom() {
        StatueCoats x = Check.town("", EIGHT_CLOTHES, "");
        Check.due("; behind eight", x.type(1, ';'), Check.FULL);
        Check.due("still well", x.fault(1), Check.NONE);
        Check.due("still eight", x.count(1), 8);
    }

    // ---- terms: seasons

    static void terms_seasons_letters() {
        goesOn(2, "", "rfsm.", "");
        goesOn(2, "rfsm.rfsm.rfsm.rfsm.rfs", "rfsm.", "");
    }

    static void terms_seasons_allMonthsAreTold() {
        well(2, ALL_MONTHS, 24);
    }

    // ---- terms: faults

    static void terms_fault_anEmptyTextIsWell() {
        well(0, "", 0);
        well(1, "", 0);
        well(2, "", 0);
    }

    static void terms_fault_notEndedIsItsEnd() {
        fault(0, "1", 1);
        fault(0, "10", 2);
        fault(0, "100", 3);
        fault(0, "100n;", 5);
        fault(0, "100n;1", 6);
        fault(1, "1", 1);
        fault(1, "10", 2);
        fault(1, "10w", 3);
        fault(1, "10w0", 4);
        fault(1, "10w01;", 6);
    }

    static void terms_fault_aFirstFigure0OfLargeIsNotEndedYet() {
        fault(1, "0", 1);
        fault(1, "0x", 1);
    }

    static void terms_fault_notEndedWhereNoMoreGoes() {
        fault(0, "100n;100n;100n;100n;100n;100n;100n;100", 38);
        fault(1, "10w01;10w01;10w01;10w01;10w01;10w01;10w01;10w0", 46);
    }

    static void terms_fault_theFirstOfTwo() {
        fault(0, "0x", 0);
        fault(0, "100n;0000", 5);
        fault(1, "10w00;09", 4);
        fault(2, "r?f?", 1);
    }

    static void terms_fault_firstAndLastByteOfAFullText() {
        fault(0, "000n;100n;100n;100n;100n;100n;100n;100n", 0);
        fault(0, "100n;100n;100n;100n;100n;100n;100n;100;", 38);
        fault(1, "x0w01;10w01;10w01;10w01;10w01;10w01;10w01;10w01", 0);
        fault(1, "10w01;10w01;10w01;10w01;10w01;10w01;10w01;10w00", 46);
        fault(2, "?rrrrrrrrrrrrrrrrrrrrrrr", 0);
        fault(2, "rrrrrrrrrrrrrrrrrrrrrrr?", 23);
    }

    static void terms_fault_statuesAreAsIfEmpty() {
        StatueCoats x = Check.town("100n;", "10w01", "f");
        Check.due("count", x.count(0), 0);
        Check.due("statue", x.statue(0, 0), Check.BAD);
        Check.due("wears", x.wears(0, 0), Check.BAD);
        Check.due("fits", x.fits(0, 0), 0);
        Check.due("bare", x.behind(0, 0), 0);
        Check.due("freezes", x.freezes(0), Check.NONE);
        Check.due("changes", x.changes(0), Check.BAD);
        Check.due("most", x.most(0, Check.NONE), 0);
        Check.due("round", x.round(0, 99, Check.NONE), Check.BAD);
        Check.due("look", x.look(0), Check.BAD);
        Check.due("dressed in weather", x.weather(1, 1, Check.NONE), 0);
    }

    static void terms_fault_clothesAreAsIfEmpty() {
        StatueCoats x = Check.town("100n", "10w01;", "f");
        Check.due("count", x.count(1), 0);
        Check.due("cloth", x.cloth(0, 0), Check.BAD);
        Check.due("is", x.is(0, 0, 0), Check.BAD);
        Check.due("fits", x.fits(0, 0), Check.BAD);
        Check.due("wears", x.wears(0, 0), Check.NONE);
        Check.due("gone", x.behind(1, 1), 0);
        Check.due("freezes", x.freezes(0), 0);
        Check.due("most", x.most(0, Check.NONE), 0);
        Check.due("sew", x.sew(0, 10), Check.NONE);
        Check.due("moths", x.moths(1, 0, 0, 0), Check.LONG_BAD);
        Check.due("weather", x.weather(1, 1, 0), Check.BAD);
    }

    static void terms_fault_seasonsAreAsIfEmpty() {
        StatueCoats x = Check.town("100n", "10w01", "mf?");
        Check.due("count", x.count(2), 0);
        Check.due("season", x.season(0), Check.NONE);
        Check.due("is behind none", x.is(0, 0, 2), 1);
        Check.due("is behind one", x.is(1, 0, 2), Check.BAD);
        Check.due("freezes", x.freezes(0), Check.NONE);
        Check.due("changes", x.changes(0), 0);
        Check.due("look", x.look(0), 0);
    }

    static void terms_fault_undoMendsIt() {
        StatueCoats x = Check.town("100n;", "10w01;", "mf?");
        for (int text = 0; text < 3; text++) {
            x.undo(text);
            Check.due("fault of text " + text, x.fault(text), Check.NONE);
        }
        Check.dueRow("count", x::count, 1, 1, 2);
    }

    // ---- promise 1

    static void p01_noStatues() {
        StatueCoats x = new StatueCoats();
        Check.due("count", x.count(0), 0);
        Check.due("bytes", x.count(3), 0);
        Check.due("statue", x.statue(0, 0), Check.BAD);
    }

    static void p01_noClothes() {
        StatueCoats x = new StatueCoats();
        Check.due("count", x.count(1), 0);
        Check.due("bytes", x.count(4), 0);
        Check.due("cloth", x.cloth(0, 0), Check.BAD);
    }

    static void p01_noSeasons() {
        StatueCoats x = new StatueCoats();
        Check.due("count", x.count(2), 0);
        Check.due("bytes", x.count(5), 0);
        Check.due("season", x.season(0), Check.NONE);
        Check.due("behind one", x.behind(1, 0), Check.BAD);
    }

    static void p01_allSheetsAreLost() {
        for (int s = 0; s < 4; s++) {
            StatueCoats x = new StatueCoats();
            Check.due("get", x.get(s, 0, 0), LEAST);
            Check.due("finding", x.count(8), 1);
            Check.due("lose", x.lose(s), Check.NULL);
        }
    }

    static void p01_slackIs15() {
        Check.due("count", new StatueCoats().count(6), 15);
        Check.due("set", new StatueCoats().set(0, 0), 15);
    }

    static void p01_wayIs0() {
        Check.due("set", new StatueCoats().set(1, 1), 0);
    }

    static void p01_nothingSeenNothingFound() {
        StatueCoats x = new StatueCoats();
        Check.due("seen", x.count(7), 0);
        Check.due("found", x.count(8), 0);
        Check.due("forget", x.forget(), 0);
    }

    static void p01_twoObjectsAreApart() {
        StatueCoats x = new StatueCoats(), y = new StatueCoats();
        long before = y.digest();
        Check.typeAll(x, 0, "100n");
        Check.typeAll(x, 1, "10w01");
        Check.typeAll(x, 2, "r");
        x.set(0, 1);
        x.set(1, 1);
        x.seen(0, 0, 0);
        x.sheet(0, 0, -1);
        x.sheet(0, 0, 1);
        Check.due("digest of the other", y.digest(), before);
        Check.due("finding of the other", y.count(8), 0);
        Check.due("way of the other", y.set(1, 0), 0);
        Check.due("sheet of the other", y.lose(0), Check.NULL);
    }

    // ---- promise 2

    static void p02_textBelow0AndAbove2() {
        Twins.bad("type", (x, n) -> x.type(n, '1'), -1, 3);
    }

    static void p02_byteBelow0AndAbove255() {
        for (int text = 0; text < 3; text++) {
            int t = text;
            Twins.bad("type into " + t, (x, n) -> x.type(t, n), -1, 256, '1' + 256, '1' - 256, '1' + 65536);
        }
    }

    static void p02_byte0And255AreTaken() {
        for (int text = 0; text < 3; text++) {
            StatueCoats x = new StatueCoats();
            Check.due("byte 0", x.type(text, 0), 1);
            Check.due("byte 255", x.type(text, 255), 2);
            Check.due("bytes", x.count(3 + text), 2);
            Check.due("neither goes on", x.fault(text), 0);
        }
    }

    static void p02_theLastByteThatGoesIn() {
        for (int text = 0; text < 3; text++) {
            StatueCoats x = filled(text, MOST[text] - 1);
            Check.due("text " + text, x.type(text, 'r'), MOST[text]);
        }
    }

    static void p02_oneMoreIsFull() {
        for (int text = 0; text < 3; text++) {
            int t = text;
            Twins.refused("text " + t, () -> filled(t, MOST[t]), x -> x.type(t, 'r'), Check.FULL);
        }
    }

    static void p02_wellTextsAreFullToo() {
        String[] full = {EIGHT_STATUES, EIGHT_CLOTHES, ALL_MONTHS};
        for (int text = 0; text < 3; text++) {
            int t = text;
            Twins.Maker maker = () -> {
                StatueCoats x = new StatueCoats();
                Check.typeAll(x, t, full[t]);
                return x;
            };
            Twins.refused("text " + t, maker, x -> x.type(t, 'r'), Check.FULL);
        }
    }

    static void p02_badAheadOfFull() {
        for (int text = 0; text < 3; text++) {
            int t = text;
            Twins.refused("byte 256", () -> filled(t, MOST[t]), x -> x.type(t, 256), Check.BAD);
            Twins.refused("byte -1", () -> filled(t, MOST[t]), x -> x.type(t, -1), Check.BAD);
        }
    }

    static void p02_aFullTextLeavesTheOthersOpen() {
        for (int text = 0; text < 3; text++) {
            StatueCoats x = filled(text, MOST[text]);
            Check.due("beside text " + text, x.type((text + 1) % 3, '1'), 1);
            Check.due("beside text " + text, x.type((text + 2) % 3, '1'), 1);
        }
    }

    static void p02_undoneThereIsRoomForOne() {
        for (int text = 0; text < 3; text++) {
            StatueCoats x = filled(text, MOST[text]);
            x.undo(text);
            Check.due("one", x.type(text, 'r'), MOST[text]);
            Check.due("two", x.type(text, 'r'), Check.FULL);
        }
    }

    static void p02_answersFollow() {
        StatueCoats x = Check.town("500n", "50w01", "");
        Check.due("before", x.wears(0, 0), 0);
        x.type(2, 'm');
        Check.due("a month more", x.wears(1, 0), Check.NONE);
        x.type(1, ';');
        Check.due("a fault", x.wears(0, 0), Check.NONE);
    }

    private static StatueCoats filled(int text, int bytes) {
        StatueCoats x = new StatueCoats();
        for (int k = 0; k < bytes; k++) {
            x.type(text, 'r');
        }
        return x;
    }

    // ---- promise 3

    static void p03_textBelow0AndAbove2() {
        Twins.bad("wipe", (x, n) -> x.wipe(n), -1, 3);
    }

    static void p03_anEmptyTextHadNone() {
        StatueCoats x = new StatueCoats();
        Check.dueRow("wipe", x::wipe, 0, 0, 0, Check.BAD);
        Check.dueRow("again", x::wipe, 0, 0, 0, Check.BAD);
    }

    static void p03_aFullTextHadAll() {
        StatueCoats x = Check.town(EIGHT_STATUES, EIGHT_CLOTHES, ALL_MONTHS);
        Check.dueRow("wipe", x::wipe, 39, 47, 24, Check.BAD);
        Check.dueRow("count", x::count, 0, 0, 0, 0, 0, 0);
    }

    static void p03_aTextWithAFaultHadItsBytes() {
        StatueCoats x = Check.town("??", "0", "?rr");
        Check.dueRow("wipe", x::wipe, 2, 1, 3, Check.BAD);
        Check.dueRow("fault", x::fault, -1, -1, -1, Check.BAD);
    }

    static void p03_theOthersStay() {
        for (int text = 0; text < 3; text++) {
            StatueCoats x = Check.town("100n", "10w01", "r");
            x.wipe(text);
            for (int other = 0; other < 3; other++) {
                Check.due("text " + other, x.count(other), other == text ? 0 : 1);
            }
        }
    }

    static void p03_wipedBytesDoNotComeBack() {
        StatueCoats x = Check.town("100n", "10w01", "rf");
        x.wipe(0);
        x.type(0, '1');
        Check.due("statues not ended", x.fault(0), 1);
        x.wipe(2);
        x.type(2, 'm');
        Check.due("the first", x.season(0), 4);
        Check.due("no second", x.season(1), Check.NONE);
    }

    static void p03_answersFollow() {
        StatueCoats x = Check.town("500n", "50l01", "");
        Check.due("before", x.wears(0, 0), 0);
        x.wipe(1);
        Check.due("no clothes", x.wears(0, 0), Check.NONE);
        Check.due("nobody is dressed", x.behind(0, 0), 1);
    }

    // ---- promise 4

    static void p04_textBelow0AndAbove2() {
        Twins.bad("undo", (x, n) -> x.undo(n), -1, 3);
    }

    static void p04_anEmptyTextIsNot() {
        for (int text = 0; text < 3; text++) {
            int t = text;
            Twins.refused("new", StatueCoats::new, x -> x.undo(t), Check.NOT);
        }
    }

    static void p04_aWipedTextIsNot() {
        for (int text = 0; text < 3; text++) {
            int t = text;
            Twins.Maker maker = () -> {
                StatueCoats x = Twins.busyWithStore();
                x.wipe(t);
                return x;
            };
            Twins.refused("wiped", maker, x -> x.undo(t), Check.NOT);
        }
    }

    static void p04_badAheadOfNot() {
        Twins.refused("text 3", StatueCoats::new, x -> x.undo(3), Check.BAD);
        Twins.refused("text -1", StatueCoats::new, x -> x.undo(-1), Check.BAD);
    }

    static void p04_theOnlyByte() {
        for (int text = 0; text < 3; text++) {
            StatueCoats x = filled(text, 1);
            Check.due("undo", x.undo(text), 0);
            Check.due("fault", x.fault(text), Check.NONE);
            Check.due("once more", x.undo(text), Check.NOT);
        }
    }

    static void p04_fromFullToEmpty() {
        for (int text = 0; text < 3; text++) {
            StatueCoats x = filled(text, MOST[text]);
            for (int left = MOST[text] - 1; left >= 0; left--) {
                Check.due("undo", x.undo(text), left);
            }
            Check.due("at the end", x.undo(text), Check.NOT);
        }
    }

    static void p04_undoIsNotUndone() {
        StatueCoats x = Check.town("", "", "rf");
        x.undo(2);
        Check.due("undo", x.undo(2), 0);
        x.type(2, 'm');
        Check.due("the first", x.season(0), 4);
        Check.due("no second", x.season(1), Check.NONE);
    }

    static void p04_answersFollow() {
        StatueCoats x = Check.town("500n", "50l01", "");
        Check.due("before", x.wears(0, 0), 0);
        x.undo(1);
        Check.due("not ended", x.wears(0, 0), Check.NONE);
    }

    // ---- promise 5

    static void p05_textBelow0AndAbove2() {
        Twins.bad("fault", (x, n) -> x.fault(n), -1, 3);
    }

    static void p05_noneOfWellTexts() {
        StatueCoats x = Check.town(EIGHT_STATUES, EIGHT_CLOTHES, ALL_MONTHS);
        Check.dueRow("fault", x::fault, -1, -1, -1, Check.BAD);
    }

    static void p05_noneOfEmptyTexts() {
        Check.dueRow("fault", new StatueCoats()::fault, -1, -1, -1, Check.BAD);
    }

    static void p05_theLeastAndTheGreatestPlace() {
        StatueCoats x = new StatueCoats();
        x.type(0, '0');
        Check.due("place 0", x.fault(0), 0);
        Check.retype(x, 0, "100n;100n;100n;100n;100n;100n;100n;100x");
        Check.due("place 38", x.fault(0), 38);
        Check.retype(x, 1, "10w01;10w01;10w01;10w01;10w01;10w01;10w01;10w0x");
        Check.due("place 46", x.fault(1), 46);
    }

    static void p05_eachTextItsOwn() {
        StatueCoats x = Check.town("100n;1", "10w01;0", "r?");
        Check.dueRow("fault", x::fault, 6, 7, 1, Check.BAD);
    }

    static void p05_itStaysAsMoreIsTyped() {
        StatueCoats x = Check.town("0", "", "");
        Check.typeAll(x, 0, "00n;100n");
        Check.due("fault", x.fault(0), 0);
    }

    // ---- promise 6

    static void p06_statueBelow0AndNotThere() {
        Twins.bad("statue", (x, n) -> x.statue(n, 0), -1, 3, 7, 8);
    }

    static void p06_whatBelow0AndAbove3() {
        Twins.bad("statue", (x, n) -> x.statue(0, n), -1, 4);
    }

    static void p06_theLastOfEight() {
        StatueCoats x = Check.town(EIGHT_STATUES, "", "");
        Check.dueRow("statue 7", what -> x.statue(7, what), 6, 9, 9, 0, Check.BAD);
        Check.due("statue 8", x.statue(8, 0), Check.BAD);
    }

    static void p06_leastAndGreatestFigures() {
        StatueCoats x = Check.town("100s;999n", "", "");
        Check.dueRow("least", what -> x.statue(0, what), 1, 0, 0, 0, Check.BAD);
        Check.dueRow("greatest", what -> x.statue(1, what), 9, 9, 9, 1, Check.BAD);
    }

    static void p06_noneOfAnEmptyText() {
        Check.due("statue 0", new StatueCoats().statue(0, 0), Check.BAD);
    }

    static void p06_noneWithAFault() {
        StatueCoats x = Check.town("100n;x", "", "");
        Check.due("statue 0", x.statue(0, 0), Check.BAD);
    }

    // ---- promise 7

    static void p07_clothBelow0AndNotThere() {
        Twins.bad("cloth", (x, n) -> x.cloth(n, 0), -1, 3, 7, 8);
    }

    static void p07_whatBelow0AndAbove3() {
        Twins.bad("cloth", (x, n) -> x.cloth(0, n), -1, 4);
    }

    static void p07_theLastOfEight() {
        StatueCoats x = Check.town("", EIGHT_CLOTHES, "");
        Check.dueRow("cloth 7", what -> x.cloth(7, what), 69, 1, 5, 6, Check.BAD);
        Check.due("cloth 8", x.cloth(8, 0), Check.BAD);
    }

    static void p07_leastAndGreatestFigures() {
        StatueCoats x = Check.town("", "10w01;99h99;50l55", "");
        Check.dueRow("least", what -> x.cloth(0, what), 10, 0, 0, 1, Check.BAD);
        Check.dueRow("greatest", what -> x.cloth(1, what), 99, 2, 9, 9, Check.BAD);
        Check.due("linen", x.cloth(2, 1), 1);
    }

    static void p07_asToldWhateverMonthsBring() {
        StatueCoats x = Check.town("", "60w31;60l31", "mmrsrs");
        Check.dueRow("wool", what -> x.cloth(0, what), 60, 0, 3, 1);
        Check.dueRow("linen", what -> x.cloth(1, what), 60, 1, 3, 1);
    }

    static void p07_noneWithAFault() {
        StatueCoats x = Check.town("", "10w01;x", "");
        Check.due("cloth 0", x.cloth(0, 0), Check.BAD);
    }

    // ---- promise 8

    static void p08_monthBelow0AndAbove23() {
        Twins.bad("season", (x, n) -> x.season(n), -1, 24);
    }

    static void p08_badAlsoWhereAllMonthsAre() {
        StatueCoats x = Check.town("", "", ALL_MONTHS);
        Check.due("month -1", x.season(-1), Check.BAD);
        Check.due("month 24", x.season(24), Check.BAD);
    }

    static void p08_theLastMonthAndTheOneBehind() {
        StatueCoats x = Check.town("", "", "rfm");
        Check.due("month 2", x.season(2), 4);
        Check.due("month 3", x.season(3), Check.NONE);
        Check.due("month 23", x.season(23), Check.NONE);
    }

    static void p08_all24() {
        StatueCoats x = Check.town("", "", ALL_MONTHS);
        Check.dueRow("season", x::season, 1, 2, 3, 4, 0, 1, 2, 3, 4, 0, 1, 2, 3, 4, 0, 1, 2, 3, 4, 0, 1, 2, 3, 4, Check.BAD);
    }

    static void p08_noneOfAnEmptyText() {
        Check.due("month 0", new StatueCoats().season(0), Check.NONE);
        Check.due("month 23", new StatueCoats().season(23), Check.NONE);
    }

    static void p08_noneWithAFault() {
        StatueCoats x = Check.town("", "", "rf?");
        Check.dueRow("season", x::season, -1, -1, -1, -1);
    }

    // ---- promise 9

    static void p09_whatBelow0AndAbove1() {
        Twins.bad("set", (x, n) -> x.set(n, 0), -1, 2);
        Twins.bad("set", (x, n) -> x.set(n, 1), -1, 2);
    }

    static void p09_slackBelow0AndAbove40() {
        Twins.bad("slack", (x, n) -> x.set(0, n), -1, 41);
    }

    static void p09_wayBelow0AndAbove1() {
        Twins.bad("way", (x, n) -> x.set(1, n), -1, 2);
    }

    static void p09_slack0And40AreTaken() {
        StatueCoats x = new StatueCoats();
        Check.due("to 0", x.set(0, 0), 15);
        Check.due("is 0", x.count(6), 0);
        Check.due("to 40", x.set(0, 40), 0);
        Check.due("is 40", x.count(6), 40);
        Check.due("to 39", x.set(0, 39), 40);
        Check.due("to 1", x.set(0, 1), 39);
        Check.due("is 1", x.count(6), 1);
    }

    static void p09_wayBothWays() {
        StatueCoats x = new StatueCoats();
        Check.due("to 1", x.set(1, 1), 0);
        Check.due("to 1 again", x.set(1, 1), 1);
        Check.due("to 0", x.set(1, 0), 1);
        Check.due("to 0 again", x.set(1, 0), 0);
    }

    static void p09_eachLeavesTheOther() {
        StatueCoats x = new StatueCoats();
        x.set(1, 1);
        Check.due("slack", x.count(6), 15);
        x.set(0, 0);
        Check.due("way", x.set(1, 1), 1);
    }

    static void p09_answersFollow() {
        StatueCoats x = Check.town("400n;500n", "50l01", "");
        Check.dueRow("at first", s -> x.wears(0, s), 0, Check.NONE);
        x.set(1, 1);
        Check.dueRow("by way 1", s -> x.wears(0, s), Check.NONE, 0);
        x.set(1, 0);
        x.set(0, 9);
        Check.dueRow("by slack 9", s -> x.wears(0, s), Check.NONE, 0);
    }

    static void p09_wipingLeavesBoth() {
        StatueCoats x = Twins.busy();
        for (int text = 0; text < 3; text++) {
            x.wipe(text);
        }
        x.forget();
        Check.due("slack", x.count(6), 20);
        Check.due("way", x.set(1, 0), 1);
    }
}
