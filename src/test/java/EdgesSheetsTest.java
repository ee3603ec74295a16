/** The edges of promises 26 to 33 and of the terms that they rest on, a case each; and the order of refusals. */
public final class EdgesSheetsTest {
    private static final int NONE = Check.NONE, BAD = Check.BAD;
    private static final int LEAST = Integer.MIN_VALUE, GREATEST = Integer.MAX_VALUE;
    private static final int NULL = 1, INDEX = 2, CAST = 3, STORE = 4, SIZE = 5;

    public static void main(String[] args) {
        Check.cases(EdgesSheetsTest.class, 26, 33);
        Check.end("EdgesSheetsTest");
    }

    /** Sheet 0 of a form with items 1, 2, .. n. */
    private static StatueCoats counted(int form, int n) {
        StatueCoats x = new StatueCoats();
        x.sheet(0, form, n);
        for (int i = 0; i < n; i++) {
            x.lay(0, form, i, i + 1);
        }
        return x;
    }

    private static void foundBy(String call, Twins.NumberedAct act, int number, int... wrong) {
        for (int n : wrong) {
            Twins.Maker maker = number == STORE ? Twins::busy : Twins::busyWithStore;
            Twins.found(call + " with " + n, maker, x -> act.on(x, n), -10 - number, number);
        }
    }

    // ---- terms: findings and the order of refusals

    static void terms_findings_areTheirNumberBelowMinus10() {
        StatueCoats x = Twins.busy();
        Check.due("none yet", x.count(8), 0);
        Check.due("NULL", x.lose(3), -11);
        Check.due("NULL", x.count(8), 1);
        Check.due("INDEX", x.lay(0, 0, 3, 0), -12);
        Check.due("INDEX", x.count(8), 2);
        Check.due("CAST", x.lay(0, 1, 0, 0), -13);
        Check.due("CAST", x.count(8), 3);
        Check.due("STORE", x.copy(0, 0, 1, 0, 0), -14);
        Check.due("STORE", x.count(8), 4);
        Check.due("SIZE", x.sheet(0, 0, -1), -15);
        Check.due("SIZE", x.count(8), 5);
    }

    static void terms_findings_theLatestStays() {
        StatueCoats x = Twins.busyWithStore();
        x.sheet(3, 0, 2);
        x.lay(3, 0, 0, 1);
        x.get(3, 0, 0);
        x.copy(3, 0, 0, 0, 1);
        x.write(0, 3);
        x.read(3);
        x.lose(3);
        x.type(0, 'x');
        x.wipe(0);
        x.forget();
        Check.due("behind calls that find nothing", x.count(8), 4);
    }

    static void terms_refusals_badNotFullAreNoFindings() {
        StatueCoats x = Twins.busyWithStore();
        Check.due("BAD", x.type(3, 0), BAD);
        x.wipe(2);
        Check.due("NOT", x.undo(2), Check.NOT);
        Check.typeAll(x, 2, "rrrrrrrrrrrrrrrrrrrrrrrr");
        Check.due("FULL", x.type(2, 'r'), Check.FULL);
        Check.due("the latest finding", x.count(8), 4);
    }

    static void terms_refusals_badAheadOfNull() {
        Twins.refused("write", x -> x.write(5, 3), BAD);
        Twins.refused("write", x -> x.write(-1, 3), BAD);
        Twins.refused("lay", x -> x.lay(3, 3, 0, 0), BAD);
        Twins.refused("lay", x -> x.lay(3, -1, 0, 0), BAD);
        Twins.refused("get", x -> x.get(3, 3, 0), LEAST);
        Twins.refused("get", x -> x.get(3, -1, 0), LEAST);
        Twins.refused("copy from", x -> x.copy(3, 0, 4, 0, 0), BAD);
        Twins.refused("copy to", x -> x.copy(-1, 0, 3, 0, 0), BAD);
    }

    static void terms_refusals_badAheadOfSize() {
        Twins.refused("sheet 4", x -> x.sheet(4, 0, -1), BAD);
        Twins.refused("sheet -1", x -> x.sheet(-1, 0, -1), BAD);
        Twins.refused("form 3", x -> x.sheet(0, 3, -1), BAD);
        Twins.refused("form -1", x -> x.sheet(0, -1, LEAST), BAD);
    }

    static void terms_refusals_badAheadOfCastStoreAndIndex() {
        Twins.refused("lay", x -> x.lay(0, 3, 99, 0), BAD);
        Twins.refused("get", x -> x.get(0, 3, 99), LEAST);
        Twins.refused("copy", x -> x.copy(0, -1, 4, -1, -1), BAD);
    }

    static void terms_refusals_nullAheadOfCastAndIndex() {
        Twins.found("lay", x -> x.lay(3, 1, 99, 0), NULL);
        Twins.found("lay", x -> x.lay(3, 0, -1, 0), NULL);
        Twins.found("get", Twins::busy, x -> x.get(3, 2, 99), LEAST, NULL);
    }

    static void terms_refusals_nullAheadOfStoreAndIndex() {
        Twins.found("from", x -> x.copy(3, -1, 0, -1, -1), NULL);
        Twins.found("to", x -> x.copy(0, 99, 3, 99, 99), NULL);
        Twins.found("both", x -> x.copy(3, 0, 3, 0, 0), NULL);
    }

    static void terms_refusals_castAheadOfIndex() {
        Twins.found("lay", x -> x.lay(0, 1, 99, 0), CAST);
        Twins.found("lay", x -> x.lay(0, 2, -1, 0), CAST);
        Twins.found("get", Twins::busy, x -> x.get(0, 1, 99), LEAST, CAST);
    }

    static void terms_refusals_storeAheadOfIndex() {
        Twins.found("from", x -> x.copy(0, -1, 1, 0, 1), STORE);
        Twins.found("to", x -> x.copy(0, 0, 1, 99, 1), STORE);
        Twins.found("so many", x -> x.copy(0, 0, 2, 0, -1), STORE);
    }

    static void terms_sheets_fourThatAreApart() {
        StatueCoats x = new StatueCoats();
        for (int s = 0; s < 4; s++) {
            x.sheet(s, 2, 60);
            x.lay(s, 2, 0, 10 + s);
            x.lay(s, 2, 59, 20 + s);
        }
        for (int s = 0; s < 4; s++) {
            Check.due("first of " + s, x.get(s, 2, 0), 10 + s);
            Check.due("last of " + s, x.get(s, 2, 59), 20 + s);
        }
    }

    // ---- promise 26

    static void p26_sheetBelow0AndAbove3() {
        Twins.bad("sheet", (x, n) -> x.sheet(n, 0, 1), -1, 4);
    }

    static void p26_formBelow0AndAbove2() {
        Twins.bad("form", (x, n) -> x.sheet(0, n, 1), -1, 3);
    }

    static void p26_itemsAbove60() {
        Twins.refusedAt("items", (x, n) -> x.sheet(0, 0, n), BAD, 61, 256, 65536, GREATEST);
        Twins.refusedAt("items of a lost one", (x, n) -> x.sheet(3, 0, n), BAD, 61, GREATEST);
    }

    static void p26_itemsBelow0() {
        foundBy("items", (x, n) -> x.sheet(0, 0, n), SIZE, -1, -2, -256, -65536, LEAST + 1, LEAST);
        foundBy("items of a lost one", (x, n) -> x.sheet(3, 0, n), SIZE, -1, LEAST);
    }

    static void p26_noItemsAndSixty() {
        for (int form = 0; form < 3; form++) {
            StatueCoats x = new StatueCoats();
            Check.due("none", x.sheet(0, form, 0), 0);
            Check.due("one", x.sheet(1, form, 1), 1);
            Check.due("59", x.sheet(2, form, 59), 59);
            Check.due("60", x.sheet(3, form, 60), 60);
            Check.dueRow("lose", x::lose, 0, 1, 59, 60, BAD);
        }
    }

    static void p26_allItemsAre0AtFirst() {
        for (int form = 0; form < 3; form++) {
            int f = form;
            StatueCoats x = new StatueCoats();
            x.sheet(0, f, 60);
            Check.dueRow("items", i -> x.get(0, f, i), new long[60]);
        }
    }

    static void p26_aNewRowForgetsTheOld() {
        StatueCoats x = counted(2, 60);
        x.sheet(0, 2, 1);
        x.sheet(0, 2, 60);
        Check.dueRow("items", i -> x.get(0, 2, i), new long[60]);
    }

    static void p26_aNewRowOfAnotherForm() {
        StatueCoats x = counted(2, 3);
        Check.due("bytes", x.sheet(0, 0, 2), 2);
        Check.due("as ints", x.get(0, 2, 0), LEAST);
        Check.due("as ints", x.count(8), CAST);
        Check.dueRow("as bytes", i -> x.get(0, 0, i), 0, 0, LEAST);
    }

    static void p26_anEmptyOneIsNotLost() {
        StatueCoats x = new StatueCoats();
        x.sheet(0, 1, 0);
        Check.due("its first item", x.get(0, 1, 0), LEAST);
        Check.due("INDEX, not NULL", x.count(8), INDEX);
        Check.due("another form", x.get(0, 0, 0), LEAST);
        Check.due("CAST, not NULL", x.count(8), CAST);
        Check.due("lose", x.lose(0), 0);
    }

    // ---- promise 27

    static void p27_sheetBelow0AndAbove3() {
        Twins.bad("lose", (x, n) -> x.lose(n), -1, 4);
    }

    static void p27_aLostOne() {
        Twins.found("never made", x -> x.lose(3), NULL);
    }

    static void p27_twice() {
        StatueCoats x = Twins.busyWithStore();
        Check.due("once", x.lose(0), 3);
        Check.due("no finding", x.count(8), STORE);
        Check.due("twice", x.lose(0), Check.NULL);
        Check.due("a finding", x.count(8), NULL);
    }

    static void p27_noItemsAndSixty() {
        StatueCoats x = new StatueCoats();
        x.sheet(0, 2, 0);
        Check.due("none", x.lose(0), 0);
        x.sheet(0, 2, 60);
        Check.due("sixty", x.lose(0), 60);
    }

    static void p27_itIsGoneForEachCall() {
        StatueCoats x = Twins.busy();
        x.lose(0);
        Check.due("lay", x.lay(0, 0, 0, 1), Check.NULL);
        Check.due("get", x.get(0, 0, 0), LEAST);
        Check.due("copy", x.copy(0, 0, 1, 0, 1), Check.NULL);
        Check.due("copy", x.copy(1, 0, 0, 0, 1), Check.NULL);
        Check.due("write", x.write(0, 0), Check.NULL);
        Check.due("read", x.read(0), Check.NULL);
    }

    static void p27_theOthersStay() {
        StatueCoats x = Twins.busy();
        x.lose(1);
        Check.due("sheet 0", x.get(0, 0, 2), -128);
        Check.due("sheet 2", x.get(2, 2, 4), 70000);
    }

    // ---- promise 28

    static void p28_sheetBelow0AndAbove3() {
        Twins.bad("lay", (x, n) -> x.lay(n, 0, 0, 5), -1, 4);
    }

    static void p28_formBelow0AndAbove2() {
        Twins.bad("lay", (x, n) -> x.lay(0, n, 0, 5), -1, 3);
    }

    static void p28_aLostOne() {
        for (int form = 0; form < 3; form++) {
            int f = form;
            Twins.found("lay", x -> x.lay(3, f, 0, 5), NULL);
        }
    }

    static void p28_anotherForm() {
        for (int s = 0; s < 3; s++) {
            int of = s;
            Twins.found("lay", x -> x.lay(of, (of + 1) % 3, 0, 5), CAST);
            Twins.found("lay", x -> x.lay(of, (of + 2) % 3, 0, 5), CAST);
        }
    }

    static void p28_itemBelow0AndNotThere() {
        for (int s = 0; s < 3; s++) {
            int of = s;
            foundBy("lay", (x, n) -> x.lay(of, of, n, 5), INDEX, -1, 3 + s, 59, 60, 61);
            foundBy("lay", (x, n) -> x.lay(of, of, n, 5), INDEX, Twins.FAR);
        }
    }

    static void p28_noItemOfAnEmptyOne() {
        StatueCoats x = new StatueCoats();
        x.sheet(0, 0, 0);
        Check.due("item 0", x.lay(0, 0, 0, 1), Check.INDEX);
        Check.due("item -1", x.lay(0, 0, -1, 1), Check.INDEX);
    }

    static void p28_theFirstAndTheLastOfSixty() {
        for (int form = 0; form < 3; form++) {
            StatueCoats x = new StatueCoats();
            x.sheet(0, form, 60);
            Check.due("item 0", x.lay(0, form, 0, 11), 1);
            Check.due("item 59", x.lay(0, form, 59, 12), 1);
            Check.due("item 60", x.lay(0, form, 60, 13), Check.INDEX);
            Check.due("item 0", x.get(0, form, 0), 11);
            Check.due("item 1", x.get(0, form, 1), 0);
            Check.due("item 58", x.get(0, form, 58), 0);
            Check.due("item 59", x.get(0, form, 59), 12);
        }
    }

    private static void laid(int form, int v, int want) {
        StatueCoats x = new StatueCoats();
        x.sheet(0, form, 1);
        Check.due("lay " + v + " as form " + form, x.lay(0, form, 0, v), 1);
        Check.due("get " + v + " of form " + form, x.get(0, form, 0), want);
    }

    static void p28_bytesWrap() {
        int[][] rows = {{127, 127}, {128, -128}, {255, -1}, {256, 0}, {257, 1}, {-1, -1}, {-128, -128}, {-129, 127},
            {-256, 0}, {32767, -1}, {32768, 0}, {65535, -1}, {GREATEST, -1}, {LEAST, 0}, {LEAST + 127, 127}};
        for (int[] row : rows) {
            laid(0, row[0], row[1]);
        }
    }

    static void p28_shortsWrap() {
        int[][] rows = {{127, 127}, {128, 128}, {255, 255}, {-129, -129}, {32767, 32767}, {32768, -32768}, {65535, -1},
            {65536, 0}, {-32768, -32768}, {-32769, 32767}, {-65536, 0}, {GREATEST, -1}, {LEAST, 0}, {LEAST + 7, 7}};
        for (int[] row : rows) {
            laid(1, row[0], row[1]);
        }
    }

    static void p28_intsDoNot() {
        int[] values = {0, 128, -129, 32768, -32769, 65536, GREATEST, LEAST, LEAST + 1};
        for (int v : values) {
            laid(2, v, v);
        }
    }

    // ---- promise 29

    static void p29_sheetBelow0AndAbove3() {
        Twins.refusedAt("get", (x, n) -> x.get(n, 0, 0), LEAST, -1, 4);
        Twins.refusedAt("get", (x, n) -> x.get(n, 0, 0), LEAST, Twins.FAR);
    }

    static void p29_formBelow0AndAbove2() {
        Twins.refusedAt("get", (x, n) -> x.get(0, n, 0), LEAST, -1, 3);
        Twins.refusedAt("get", (x, n) -> x.get(0, n, 0), LEAST, Twins.FAR);
    }

    static void p29_aLostOne() {
        for (int form = 0; form < 3; form++) {
            int f = form;
            Twins.found("get", Twins::busyWithStore, x -> x.get(3, f, 0), LEAST, NULL);
        }
    }

    static void p29_anotherForm() {
        for (int s = 0; s < 3; s++) {
            int of = s;
            Twins.found("get", Twins::busyWithStore, x -> x.get(of, (of + 1) % 3, 0), LEAST, CAST);
            Twins.found("get", Twins::busyWithStore, x -> x.get(of, (of + 2) % 3, 0), LEAST, CAST);
        }
    }

    static void p29_itemBelow0AndNotThere() {
        int[] wrong = {-1, 5, 59, 60, 61, LEAST, LEAST + 1, -256, 65536, GREATEST};
        for (int s = 0; s < 3; s++) {
            int of = s;
            for (int n : wrong) {
                Twins.found("get " + n, Twins::busyWithStore, x -> x.get(of, of, n), LEAST, INDEX);
            }
            Twins.found("just behind", Twins::busyWithStore, x -> x.get(of, of, 3 + of), LEAST, INDEX);
        }
    }

    static void p29_theFirstAndTheLastOfSixty() {
        StatueCoats x = counted(0, 60);
        Check.due("item 0", x.get(0, 0, 0), 1);
        Check.due("item 59", x.get(0, 0, 59), 60);
        Check.due("nothing found", x.count(8), 0);
        Check.due("item 60", x.get(0, 0, 60), LEAST);
        Check.due("found", x.count(8), INDEX);
    }

    static void p29_anItemThatIsTheLeastInt() {
        StatueCoats x = new StatueCoats();
        x.sheet(0, 2, 1);
        x.lay(0, 2, 0, LEAST);
        Check.due("get", x.get(0, 2, 0), LEAST);
        Check.due("count(8) tells", x.count(8), 0);
    }

    // ---- promise 30

    static void p30_sheetsBelow0AndAbove3() {
        Twins.bad("from", (x, n) -> x.copy(n, 0, 0, 0, 1), -1, 4);
        Twins.bad("to", (x, n) -> x.copy(0, 0, n, 0, 1), -1, 4);
    }

    static void p30_lostOnes() {
        Twins.found("from", x -> x.copy(3, 0, 0, 0, 1), NULL);
        Twins.found("to", x -> x.copy(0, 0, 3, 0, 1), NULL);
        Twins.found("none of it", x -> x.copy(3, 0, 0, 0, 0), NULL);
    }

    static void p30_unlikeForms() {
        for (int s = 0; s < 3; s++) {
            for (int t = 0; t < 3; t++) {
                int from = s, to = t;
                if (from != to) {
                    Twins.found("one", x -> x.copy(from, 0, to, 0, 1), STORE);
                    Twins.found("none", x -> x.copy(from, 0, to, 0, 0), STORE);
                }
            }
        }
    }

    static void p30_fromBelow0AndNotSoMany() {
        foundBy("from", (x, n) -> x.copy(0, n, 0, 0, 1), INDEX, -1, 3, 4, 60, 256);
        foundBy("from", (x, n) -> x.copy(0, n, 0, 0, 1), INDEX, Twins.FAR);
        foundBy("none from", (x, n) -> x.copy(0, n, 0, 0, 0), INDEX, -1, 4, LEAST, GREATEST);
    }

    static void p30_toBelow0AndNotSoMany() {
        foundBy("to", (x, n) -> x.copy(0, 0, 0, n, 1), INDEX, -1, 3, 4, 60, 256);
        foundBy("to", (x, n) -> x.copy(0, 0, 0, n, 1), INDEX, Twins.FAR);
        foundBy("none to", (x, n) -> x.copy(0, 0, 0, n, 0), INDEX, -1, 4, LEAST, GREATEST);
    }

    static void p30_soManyBelow0AndTooMany() {
        foundBy("so many", (x, n) -> x.copy(0, 0, 0, 0, n), INDEX, -1, 4, 60, 61, 256);
        foundBy("so many", (x, n) -> x.copy(0, 0, 0, 0, n), INDEX, Twins.FAR);
    }

    static void p30_sumsThatWrap() {
        foundBy("from 1", (x, n) -> x.copy(0, 1, 0, 0, n), INDEX, GREATEST, GREATEST - 1);
        foundBy("to 1", (x, n) -> x.copy(0, 0, 0, 1, n), INDEX, GREATEST, GREATEST - 1);
        foundBy("both", (x, n) -> x.copy(0, n, 0, n, n), INDEX, GREATEST, GREATEST / 2 + 1, LEAST);
        foundBy("from n, n less", (x, n) -> x.copy(0, n, 0, 0, -n), INDEX, 1, 2, 3, GREATEST, LEAST);
    }

    static void p30_fewerInTheOther() {
        StatueCoats x = counted(1, 6);
        x.sheet(1, 1, 3);
        Check.due("three come", x.copy(0, 0, 1, 0, 3), 1);
        Check.due("four do not", x.copy(0, 0, 1, 0, 4), Check.INDEX);
        Check.due("two from 1 on", x.copy(0, 4, 1, 1, 2), 1);
        Check.due("three from 1 on", x.copy(0, 3, 1, 1, 3), Check.INDEX);
        Check.due("from 3 on, three", x.copy(0, 3, 1, 0, 3), 1);
        Check.due("from 4 on, three", x.copy(0, 4, 1, 0, 3), Check.INDEX);
        Check.due("the other way, three", x.copy(1, 0, 0, 3, 3), 1);
        Check.due("the other way, four", x.copy(1, 0, 0, 0, 4), Check.INDEX);
    }

    static void p30_none() {
        StatueCoats x = counted(2, 3);
        x.sheet(1, 2, 0);
        Check.due("from the first", x.copy(0, 0, 0, 0, 0), 1);
        Check.due("from the end to the end", x.copy(0, 3, 0, 3, 0), 1);
        Check.due("to an empty one", x.copy(0, 3, 1, 0, 0), 1);
        Check.due("from an empty one", x.copy(1, 0, 0, 3, 0), 1);
        Check.due("one from an empty one", x.copy(1, 0, 0, 0, 1), Check.INDEX);
        Check.due("one to an empty one", x.copy(0, 0, 1, 0, 1), Check.INDEX);
        Check.dueRow("as it was", i -> x.get(0, 2, i), 1, 2, 3, LEAST);
    }

    static void p30_allSixty() {
        StatueCoats x = counted(0, 60);
        x.sheet(3, 0, 60);
        Check.due("all", x.copy(0, 0, 3, 0, 60), 1);
        Check.due("the first", x.get(3, 0, 0), 1);
        Check.due("the last", x.get(3, 0, 59), 60);
        Check.due("one more", x.copy(0, 0, 3, 0, 61), Check.INDEX);
    }

    static void p30_ofItselfAsTheyWere() {
        StatueCoats up = counted(1, 6);
        Check.due("up by one", up.copy(0, 0, 0, 1, 5), 1);
        Check.dueRow("up", i -> up.get(0, 1, i), 1, 1, 2, 3, 4, 5, LEAST);
        StatueCoats down = counted(1, 6);
        Check.due("down by one", down.copy(0, 1, 0, 0, 5), 1);
        Check.dueRow("down", i -> down.get(0, 1, i), 2, 3, 4, 5, 6, 6, LEAST);
        StatueCoats same = counted(1, 6);
        Check.due("onto itself", same.copy(0, 0, 0, 0, 6), 1);
        Check.dueRow("same", i -> same.get(0, 1, i), 1, 2, 3, 4, 5, 6, LEAST);
    }

    static void p30_leastAndGreatestItems() {
        StatueCoats x = new StatueCoats();
        x.sheet(0, 2, 2);
        x.sheet(1, 2, 2);
        x.lay(0, 2, 0, LEAST);
        x.lay(0, 2, 1, GREATEST);
        Check.due("copy", x.copy(0, 0, 1, 0, 2), 1);
        Check.dueRow("come", i -> x.get(1, 2, i), LEAST, GREATEST);
    }

    // ---- promise 31

    static void p31_monthsBelow0AndMoreThanThereAre() {
        Twins.bad("write", (x, n) -> x.write(n, 0), -1, 5, 24, 25);
    }

    static void p31_sheetBelow0AndAbove3() {
        Twins.bad("write", (x, n) -> x.write(0, n), -1, 4);
    }

    static void p31_aLostOne() {
        Twins.found("write", x -> x.write(0, 3), NULL);
        Twins.found("write", x -> x.write(4, 3), NULL);
    }

    private static StatueCoats eightBare() {
        return Check.town("100n;100n;100n;100n;100n;100n;100n;100n", "10l01", "");
    }

    static void p31_noItems() {
        StatueCoats x = eightBare();
        x.sheet(0, 0, 0);
        Check.due("write", x.write(0, 0), 0);
    }

    static void p31_noStatues() {
        StatueCoats x = new StatueCoats();
        x.sheet(0, 2, 60);
        x.lay(0, 2, 0, 9);
        Check.due("write", x.write(0, 0), 0);
        Check.due("as it was", x.get(0, 2, 0), 9);
    }

    static void p31_asManyAsThereAreItems() {
        StatueCoats x = eightBare();
        x.sheet(0, 0, 7);
        Check.due("seven", x.write(0, 0), 7);
        x.sheet(0, 0, 8);
        Check.due("eight", x.write(0, 0), 8);
        x.sheet(0, 0, 1);
        Check.due("one", x.write(0, 0), 1);
    }

    static void p31_asManyAsThereAreStatues() {
        StatueCoats x = eightBare();
        x.sheet(0, 2, 60);
        x.lay(0, 2, 7, 5);
        x.lay(0, 2, 8, 5);
        Check.due("eight", x.write(0, 0), 8);
        Check.dueRow("items", i -> x.get(0, 2, i), 0, -1, -1, -1, -1, -1, -1, -1, 5, 0);
    }

    static void p31_noneInEachForm() {
        for (int form = 0; form < 3; form++) {
            int f = form;
            StatueCoats x = Check.town("900n;100n", "10l01", "");
            x.sheet(0, f, 2);
            Check.due("write", x.write(0, 0), 2);
            Check.dueRow("items", i -> x.get(0, f, i), -1, 0, LEAST);
        }
    }

    static void p31_behindNoneAndBehindAll() {
        StatueCoats x = Check.town("500n", "50w01", "m");
        x.sheet(0, 1, 1);
        Check.due("behind none", x.write(0, 0), 1);
        Check.due("dressed", x.get(0, 1, 0), 0);
        Check.due("behind all", x.write(1, 0), 1);
        Check.due("bare", x.get(0, 1, 0), NONE);
    }

    // ---- promise 32

    static void p32_whatBelow0AndAbove8() {
        Twins.bad("count", (x, n) -> x.count(n), -1, 9);
    }

    static void p32_allEmpty() {
        Check.dueRow("count", new StatueCoats()::count, 0, 0, 0, 0, 0, 0, 15, 0, 0, BAD);
    }

    static void p32_allFull() {
        StatueCoats x = Check.town("100n;100n;100n;100n;100n;100n;100n;100n",
            "10w01;10w01;10w01;10w01;10w01;10w01;10w01;10w01", "rrrrrrrrrrrrrrrrrrrrrrrr");
        x.set(0, 40);
        for (int k = 0; k < 8; k++) {
            x.seen(24, 7, 7);
        }
        x.sheet(0, 0, -1);
        Check.dueRow("count", x::count, 8, 8, 24, 39, 47, 24, 40, 8, 5, BAD);
    }

    static void p32_bytesOfTextsWithFaults() {
        StatueCoats x = Check.town("100n;", "10w01;", "r?");
        Check.dueRow("count", x::count, 0, 0, 0, 5, 6, 2, 15, 0, 0, BAD);
    }

    static void p32_theLatestFindingIsNotTheGreatest() {
        StatueCoats x = new StatueCoats();
        x.sheet(0, 0, -1);
        Check.due("SIZE", x.count(8), 5);
        x.lose(0);
        Check.due("NULL", x.count(8), 1);
    }

    // ---- promise 33

    private static long fold(long... each) {
        long h = 17;
        for (long v : each) {
            h = 31 * h + v;
        }
        return h;
    }

    static void p33_ofANewObject() {
        Check.due("digest", new StatueCoats().digest(), fold(0, 0, 0, 0, 0, 0, 15, 0, -1, -1, -1,
            0, 0, 0, -1, -1, 0, 0, 0, -1, -1, -1, -1, BAD, BAD, 0, -1, 0));
    }

    private static long ofOneLinen(int months, long above, long below) {
        return fold(0, 1, months, 0, 5, months, 15, 0, -1, -1, -1, 10, 1, 0, 1, above, below, 10,
            10, 0, 1, 0, 0, 0, 0, -1, -1, 10, 0, 1, 0, 0, 0, 0, -1, -1, -1, -1, BAD, BAD, 0, -1, 0);
    }

    static void p33_mothsBehindTwelveMonths() {
        StatueCoats x = Check.town("", "10l01", "............");
        Check.due("digest", x.digest(), ofOneLinen(12, 1, 1));
    }

    static void p33_mothsBehindMoreAsTold() {
        StatueCoats x = Check.town("", "10l01", ".............");
        Check.due("13", x.digest(), ofOneLinen(13, Check.LONG_BAD, Check.LONG_BAD));
        Check.typeAll(x, 2, "...........");
        Check.due("24", x.digest(), ofOneLinen(24, Check.LONG_BAD, Check.LONG_BAD));
    }

    static void p33_ofOneStatue() {
        // 1 statue of size 1 at place 3, bare; no clothes, one month of frost.
        StatueCoats x = Check.town("130n", "", "f");
        Check.due("digest", x.digest(), fold(1, 0, 1, 4, 0, 1, 15, 0, -1, -1, -1, 1, 3, 0, 1, 0, 0,
            -1, 1, 0, 0, -1, -1, -1, 1, 0, 0, -1, -1, 0, 0, 4, 0, 0, -1, 0));
    }

    /** Each number told by hand: 0 is bare behind all and freezes, 1 is always dressed, 2 and 3 behind rain. */
    static void p33_ofAWholeTown() {
        StatueCoats x = Check.town("121n;231s;390n;400s", "11w13;33w25;44w09;20l32", "mrmf");
        x.set(0, 1);
        x.seen(0, 0, NONE);
        Check.due("digest", x.digest(), fold(4, 4, 4, 19, 23, 4, 1, 1, -1, -1, -1,
            1, 2, 1, 1, 1, 2, 2, 3, 1, 0, 0, 0, 3, 9, 0, 1, 1, 0, 4, 0, 0, 0, 1, 0,
            11, 0, 1, 3, 231, 256, 9, 33, 0, 2, 5, 1, 1, 27, 44, 0, 0, 9, 1, 1, 36, 20, 1, 3, 2, 1, 1, 20,
            0, 3, -1, -1, 11, 1, 3, 1, 33, 2, 5, 0, 44, 0, 9, 0, 20, 3, 2, 2, 12, 0, 2, 0, 11,
            -1, 3, 1, 2, 10, 1, 0, 0, 30, 2, 1, 4, 40, 0, 5, 8, 20, 3, 2, 2, 1, 1, 3, -1, 6,
            3, 0, 24, 3, 2, 2, 1));
    }

    static void p33_sewOfJust60() {
        StatueCoats x = Check.town("", "59l01;60l02", "");
        Check.due("digest", x.digest(), fold(0, 2, 0, 0, 11, 0, 15, 0, -1, -1, -1,
            59, 1, 0, 1, 1, 1, 59, 60, 1, 0, 2, 1, 1, 60,
            59, 0, 1, 0, 60, 0, 2, 0, 0, 0, 0, -1, 2, 59, 0, 1, 0, 60, 0, 2, 0, 0, 0, 0, -1, 2,
            -1, -1, BAD, BAD, 0, -1, 0));
    }

    /** By seed 7 rain comes in months 1 and 4, moths in 3 and 6 of nine; a tenth month would bring rain. */
    static void p33_weatherOfSeed7BehindNine() {
        StatueCoats x = Check.town("800n;800n", "99w02;99w03;99w09", "");
        Check.due("digest", x.digest(), fold(2, 3, 0, 9, 17, 0, 15, 0, -1, -1, -1, 8, 0, 0, 1, 0, 0, 8, 0, 0, 1, 0, 0,
            99, 0, 0, 2, 1, 1, 90, 99, 0, 0, 3, 1, 1, 81, 99, 0, 0, 9, 1, 1, 81,
            -1, -1, 99, 0, 2, 0, 99, 0, 3, 0, 99, 0, 9, 0, 3, 0, 0, -1, 1,
            -1, -1, 99, 0, 2, 0, 99, 0, 3, 0, 99, 0, 9, 0, 3, 0, 0, -1, 1,
            -1, -1, 3, 0, 1, 1, 1));
    }

    static void p33_faultsEnter() {
        StatueCoats x = Check.town("1", "10", "rr?");
        Check.due("digest", x.digest(), fold(0, 0, 0, 1, 2, 3, 15, 0, 1, 2, 2,
            0, 0, 0, -1, -1, 0, 0, 0, -1, -1, -1, -1, BAD, BAD, 0, -1, 0));
    }

    static void p33_slackAndSeenEnter() {
        StatueCoats x = new StatueCoats();
        x.set(0, 40);
        x.seen(0, 0, 0);
        Check.due("digest", x.digest(), fold(0, 0, 0, 0, 0, 0, 40, 1, -1, -1, -1,
            0, 0, 0, -1, -1, 0, 0, 0, -1, -1, -1, -1, BAD, BAD, 0, -1, 0));
    }

    static void p33_sheetsAndFindingsDoNot() {
        StatueCoats x = Twins.busy(), y = Twins.busy();
        y.lose(3);
        y.lose(0);
        y.sheet(1, 2, 60);
        Check.due("digest", x.digest(), y.digest());
    }

    static void p33_itChangesNothing() {
        Twins.refused("digest", x -> x.digest() * 0, 0);
        StatueCoats x = Twins.busyWithStore();
        Check.due("again", x.digest(), x.digest());
        Check.due("the latest finding", x.count(8), STORE);
    }

    static void p33_longsThatWrap() {
        StatueCoats x = new StatueCoats();
        java.math.BigInteger h = java.math.BigInteger.valueOf(17);
        long[] each = {0, 0, 0, 0, 0, 0, 15, 0, -1, -1, -1, 0, 0, 0, -1, -1, 0, 0, 0, -1, -1, -1, -1, BAD, BAD, 0, -1, 0};
        for (long v : each) {
            h = h.multiply(java.math.BigInteger.valueOf(31)).add(java.math.BigInteger.valueOf(v));
        }
        Check.dueTrue("past the greatest long", h.bitLength() > 64);
        Check.due("digest", x.digest(), h.longValue());
    }
}
