/** Promises 26 to 32: sheets, findings, what is written to them, counts. */
public final class SheetsTest {
    private static final int LEAST = Integer.MIN_VALUE;

    public static void main(String[] args) {
        making();
        losing();
        laying();
        getting();
        copying();
        copyingWrong();
        writing();
        counting();
        Check.end("SheetsTest");
    }

    private static void making() {
        StatueCoats x = new StatueCoats();
        Check.due("none", x.sheet(0, 0, 0), 0);
        Check.due("sixty", x.sheet(3, 2, 60), 60);
        Check.due("sixty-one", x.sheet(0, 0, 61), Check.BAD);
        Check.due("sheet 4", x.sheet(4, 0, 1), Check.BAD);
        Check.due("sheet -1", x.sheet(-1, 0, 1), Check.BAD);
        Check.due("form 3", x.sheet(0, 3, 1), Check.BAD);
        Check.due("form -1", x.sheet(0, -1, 1), Check.BAD);
        Check.due("BAD ahead of SIZE", x.sheet(0, 3, -1), Check.BAD);
        Check.due("BAD ahead of SIZE", x.sheet(4, 0, -1), Check.BAD);
        Check.due("no finding yet", x.count(8), 0);
        Check.due("below 0", x.sheet(3, 0, -1), Check.SIZE);
        Check.due("told", x.count(8), 5);
        Check.due("as it was", x.get(3, 2, 59), 0);
        x.lay(3, 2, 0, 76);
        x.lay(3, 2, 59, 77);
        Check.due("a new row", x.sheet(3, 2, 60), 60);
        Check.dueRow("0 at first", i -> x.get(3, 2, i), new long[60]);
    }

    private static void losing() {
        StatueCoats x = new StatueCoats();
        x.sheet(1, 1, 7);
        Check.due("lose", x.lose(1), 7);
        Check.due("lose a lost one", x.lose(1), Check.NULL);
        Check.due("told", x.count(8), 1);
        Check.due("lose 4", x.lose(4), Check.BAD);
        Check.due("lose -1", x.lose(-1), Check.BAD);
        x.sheet(1, 1, 0);
        Check.due("an empty one is there", x.lose(1), 0);
    }

    private static void laying() {
        StatueCoats x = new StatueCoats();
        int[] values = {0, 127, 128, 255, 256, -1, -129, 32767, 32768, 65535, -32769, Integer.MAX_VALUE, LEAST};
        for (int v : values) {
            x.sheet(0, 0, 2);
            x.sheet(1, 1, 2);
            x.sheet(2, 2, 2);
            for (int form = 0; form < 3; form++) {
                Check.due("lay", x.lay(form, form, 1, v), 1);
                Check.due("beside it", x.get(form, form, 0), 0);
            }
            Check.due("byte of " + v, x.get(0, 0, 1), (byte) v);
            Check.due("short of " + v, x.get(1, 1, 1), (short) v);
            Check.due("int of " + v, x.get(2, 2, 1), v);
        }
        Check.due("lay sheet 4", x.lay(4, 0, 0, 0), Check.BAD);
        Check.due("lay sheet -1", x.lay(-1, 0, 0, 0), Check.BAD);
        Check.due("BAD ahead of NULL", x.lay(3, 3, 0, 0), Check.BAD);
        Check.due("form -1", x.lay(0, -1, 0, 0), Check.BAD);
        Check.due("no finding yet", x.count(8), 0);
        Check.due("NULL ahead of INDEX", x.lay(3, 0, 99, 0), Check.NULL);
        Check.due("told", x.count(8), 1);
        Check.due("CAST ahead of INDEX", x.lay(0, 1, 99, 0), Check.CAST);
        Check.due("told", x.count(8), 3);
        Check.due("index 2", x.lay(0, 0, 2, 5), Check.INDEX);
        Check.due("index -1", x.lay(0, 0, -1, 5), Check.INDEX);
        Check.due("told", x.count(8), 2);
    }

    private static void getting() {
        StatueCoats x = new StatueCoats();
        x.sheet(0, 0, 3);
        x.lay(0, 0, 2, -5);
        Check.due("get", x.get(0, 0, 2), -5);
        Check.due("sheet 4", x.get(4, 0, 0), LEAST);
        Check.due("sheet -1", x.get(-1, 0, 0), LEAST);
        Check.due("form 3", x.get(0, 3, 0), LEAST);
        Check.due("form -1 of a lost one", x.get(1, -1, 0), LEAST);
        Check.due("BAD is no finding", x.count(8), 0);
        Check.due("a lost one", x.get(1, 0, 0), LEAST);
        Check.due("told", x.count(8), 1);
        Check.due("another form, no such item", x.get(0, 2, 3), LEAST);
        Check.due("told", x.count(8), 3);
        Check.due("no such item", x.get(0, 0, 3), LEAST);
        Check.due("told", x.count(8), 2);
        x.get(1, 0, 0);
        Check.due("below 0", x.get(0, 0, -1), LEAST);
        Check.due("told", x.count(8), 2);
    }

    private static StatueCoats counted(int form, int n) {
        StatueCoats x = new StatueCoats();
        x.sheet(0, form, n);
        for (int i = 0; i < n; i++) {
            x.lay(0, form, i, i + 1);
        }
        return x;
    }

    private static void copying() {
        StatueCoats x = counted(1, 6);
        Check.due("up", x.copy(0, 0, 0, 2, 4), 1);
        Check.dueRow("up", i -> x.get(0, 1, i), 1, 2, 1, 2, 3, 4, LEAST);
        StatueCoats y = counted(2, 6);
        Check.due("down", y.copy(0, 2, 0, 0, 4), 1);
        Check.dueRow("down", i -> y.get(0, 2, i), 3, 4, 5, 6, 5, 6, LEAST);
        StatueCoats z = counted(0, 6);
        z.sheet(3, 0, 3);
        Check.due("to another", z.copy(0, 4, 3, 1, 2), 1);
        Check.dueRow("to another", i -> z.get(3, 0, i), 0, 5, 6, LEAST);
        Check.dueRow("the first stays", i -> z.get(0, 0, i), 1, 2, 3, 4, 5, 6);
        Check.due("none, from the ends", z.copy(0, 6, 3, 3, 0), 1);
        Check.due("all", z.copy(3, 0, 0, 3, 3), 1);
        Check.dueRow("all", i -> z.get(0, 0, i), 1, 2, 3, 0, 5, 6);
    }

    private static void copyingWrong() {
        StatueCoats x = counted(1, 6);
        x.sheet(1, 1, 3);
        x.sheet(2, 2, 6);
        Check.due("from 4", x.copy(4, 0, 0, 0, 0), Check.BAD);
        Check.due("to -1", x.copy(0, 0, -1, 0, 0), Check.BAD);
        Check.due("BAD ahead of NULL", x.copy(3, 0, 4, 0, 0), Check.BAD);
        Check.due("no finding yet", x.count(8), 0);
        Check.due("from a lost one", x.copy(3, 0, 0, 0, -1), Check.NULL);
        Check.due("to a lost one", x.copy(0, 0, 3, 0, -1), Check.NULL);
        Check.due("told", x.count(8), 1);
        Check.due("STORE ahead of INDEX", x.copy(0, -1, 2, 0, 99), Check.STORE);
        Check.due("STORE of none", x.copy(0, 0, 2, 0, 0), Check.STORE);
        Check.due("told", x.count(8), 4);
        int[][] wrong = {{-1, 0, 1}, {0, -1, 1}, {0, 0, -1}, {0, 0, 4}, {4, 0, 3}, {0, 1, 3}, {7, 0, 0}, {0, 4, 0},
            {Integer.MAX_VALUE, 0, Integer.MAX_VALUE}, {0, Integer.MAX_VALUE, 1}, {LEAST, LEAST, LEAST}, {1, 1, Integer.MAX_VALUE}};
        for (int[] row : wrong) {
            x.get(3, 0, 0);
            Check.due("copy wrong", x.copy(0, row[0], 1, row[1], row[2]), Check.INDEX);
            Check.due("told", x.count(8), 2);
        }
        Check.dueRow("nothing came", i -> x.get(1, 1, i), 0, 0, 0);
        Check.due("just so many", x.copy(0, 3, 1, 0, 3), 1);
    }

    private static void writing() {
        StatueCoats x = Check.town("400n;500n;900s", "41w01;51l01", "m");
        for (int form = 0; form < 3; form++) {
            x.sheet(form, form, 5);
            x.lay(form, form, 3, 9);
            Check.due("write", x.write(0, form), 3);
            int f = form;
            Check.dueRow("written", i -> x.get(f, f, i), 0, 1, -1, 9, 0);
            Check.due("behind moths", x.write(1, form), 3);
            Check.dueRow("written", i -> x.get(f, f, i), 1, -1, -1, 9, 0);
        }
        x.sheet(0, 2, 2);
        Check.due("as many as there are items", x.write(0, 0), 2);
        Check.due("no finding yet", x.count(8), 0);
        Check.due("a lost one", x.write(0, 3), Check.NULL);
        Check.due("told", x.count(8), 1);
        Check.due("BAD ahead of NULL", x.write(2, 3), Check.BAD);
        Check.due("months -1", x.write(-1, 0), Check.BAD);
        Check.due("sheet 4", x.write(0, 4), Check.BAD);
        Check.due("sheet -1", x.write(0, -1), Check.BAD);
        x.wipe(0);
        Check.due("no statues", x.write(0, 0), 0);
        x.sheet(0, 2, 0);
        Check.due("no items", x.write(0, 0), 0);
    }

    private static void counting() {
        StatueCoats x = Check.town("400n;500n", "41w01;51l01;61h01", "mr.f");
        x.set(0, 22);
        x.seen(0, 0, 0);
        x.lose(0);
        Check.dueRow("count", x::count, 2, 3, 4, 9, 17, 4, 22, 1, 1, Check.BAD);
        Check.due("count -1", x.count(-1), Check.BAD);
        x.type(0, '?');
        x.type(2, '?');
        Check.dueRow("with faults", x::count, 0, 3, 0, 10, 17, 5, 22, 1, 1, Check.BAD);
        x.sheet(0, 0, -9);
        Check.due("the latest", x.count(8), 5);
        x.type(9, 9);
        x.undo(0);
        Check.due("a refusal that is none", x.count(8), 5);
    }
}
