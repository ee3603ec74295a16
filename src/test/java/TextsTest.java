/** Promises 1 to 9: a new object, the three texts and what they tell, slack and way. */
public final class TextsTest {
    private static final int[] MOST = {39, 47, 24};

    public static void main(String[] args) {
        newObject();
        typing();
        wiping();
        undoing();
        faultsOfStatues();
        faultsOfClothes();
        faultsOfSeasons();
        statues();
        clothes();
        seasons();
        settings();
        Check.end("TextsTest");
    }

    private static void newObject() {
        StatueCoats x = new StatueCoats();
        Check.dueRow("new count", x::count, 0, 0, 0, 0, 0, 0, 15, 0, 0, Check.BAD);
        for (int s = 0; s < 4; s++) {
            Check.due("new lose", x.lose(s), Check.NULL);
        }
        Check.due("new way", x.set(1, 0), 0);
        Check.due("new slack", x.set(0, 15), 15);
        Check.dueRow("new fault", x::fault, -1, -1, -1, Check.BAD);
    }

    private static void typing() {
        for (int text = 0; text < 3; text++) {
            StatueCoats x = new StatueCoats();
            for (int k = 1; k <= MOST[text]; k++) {
                Check.due("type", x.type(text, k % 2 == 0 ? 0 : 255), k);
            }
            Check.due("type into a full text", x.type(text, 48), Check.FULL);
            Check.due("BAD ahead of FULL", x.type(text, 256), Check.BAD);
            Check.due("BAD ahead of FULL", x.type(text, -1), Check.BAD);
            Check.due("bytes of a full text", x.count(3 + text), MOST[text]);
            Check.due("bytes of another", x.count(3 + (text + 1) % 3), 0);
        }
        StatueCoats x = new StatueCoats();
        Check.due("type text -1", x.type(-1, 48), Check.BAD);
        Check.due("type text 3", x.type(3, 48), Check.BAD);
        Check.due("type byte -1", x.type(0, -1), Check.BAD);
        Check.due("type byte 256", x.type(0, 256), Check.BAD);
        Check.due("type least", x.type(Integer.MIN_VALUE, Integer.MAX_VALUE), Check.BAD);
        Check.due("nothing changed", x.count(3), 0);
    }

    private static void wiping() {
        StatueCoats x = Check.town("110n;", "10w01", "rf");
        Check.due("wipe with a fault", x.wipe(0), 5);
        Check.due("wipe", x.wipe(1), 5);
        Check.due("wipe", x.wipe(2), 2);
        Check.dueRow("wiped", x::count, 0, 0, 0, 0, 0, 0);
        Check.due("wipe an empty one", x.wipe(1), 0);
        Check.due("wipe -1", x.wipe(-1), Check.BAD);
        Check.due("wipe 3", x.wipe(3), Check.BAD);
        Check.due("a wiped one is well", x.fault(0), Check.NONE);
    }

    private static void undoing() {
        StatueCoats x = Check.town("110n;320s", "10w01", "r");
        Check.due("count", x.count(0), 2);
        Check.due("undo", x.undo(0), 8);
        Check.due("not ended", x.count(0), 0);
        Check.due("undo", x.undo(0), 7);
        Check.due("undo", x.undo(0), 6);
        Check.due("undo", x.undo(0), 5);
        Check.due("not ended behind ;", x.fault(0), 5);
        Check.due("undo", x.undo(0), 4);
        Check.due("well again", x.count(0), 1);
        Check.due("undo to none", x.undo(2), 0);
        Check.due("undo an empty one", x.undo(2), Check.NOT);
        Check.due("undo -1", x.undo(-1), Check.BAD);
        Check.due("undo 3", x.undo(3), Check.BAD);
        Check.due("the others stay", x.count(4), 5);
    }

    private static void fault(int text, String bytes, int want) {
        StatueCoats x = new StatueCoats();
        Check.typeAll(x, text, bytes);
        Check.due("fault of " + bytes, x.fault(text), want);
        if (want != Check.NONE) {
            Check.due("things of " + bytes, x.count(text), 0);
        }
        Check.due("bytes of " + bytes, x.count(3 + text), bytes.length());
    }

    private static void faultsOfStatues() {
        fault(0, "", Check.NONE);
        fault(0, "100n", Check.NONE);
        fault(0, "999s;100n", Check.NONE);
        fault(0, "0", 0);
        fault(0, ";", 0);
        fault(0, "1", 1);
        fault(0, "1/", 1);
        fault(0, "1:", 1);
        fault(0, "11", 2);
        fault(0, "11x", 2);
        fault(0, "111", 3);
        fault(0, "111N", 3);
        fault(0, "111n,", 4);
        fault(0, "111nn", 4);
        fault(0, "111n;", 5);
        fault(0, "111n;0", 5);
        fault(0, "111n;1", 6);
        fault(0, "111n;x00000", 5);
        fault(0, "100n;100n;100n;100n;100n;100n;100n;100n", Check.NONE);
        fault(0, "100n;100n;100n;100n;100n;100n;100n;100", 38);
        fault(0, "100n;100n;100n;100n;100n;100n;100n;100;", 38);
    }

    private static void faultsOfClothes() {
        fault(1, "", Check.NONE);
        fault(1, "10w01", Check.NONE);
        fault(1, "99h99;10l01", Check.NONE);
        fault(1, "x", 0);
        fault(1, "0", 1);
        fault(1, "00", 1);
        fault(1, "09w01", 1);
        fault(1, "0x", 1);
        fault(1, "1", 1);
        fault(1, "10", 2);
        fault(1, "10s", 2);
        fault(1, "10w", 3);
        fault(1, "10wx", 3);
        fault(1, "10w0", 4);
        fault(1, "10w00", 4);
        fault(1, "10w0x", 4);
        fault(1, "10w01x", 5);
        fault(1, "10w01;", 6);
        fault(1, "10w01;09", 7);
        fault(1, "10w01;10w01;10w01;10w01;10w01;10w01;10w01;10w01", Check.NONE);
        fault(1, "10w01;10w01;10w01;10w01;10w01;10w01;10w01;10w0;", 46);
    }

    private static void faultsOfSeasons() {
        fault(2, "", Check.NONE);
        fault(2, "rfsm.", Check.NONE);
        fault(2, "rfsm.x", 5);
        fault(2, "R", 0);
        fault(2, "rrrrrrrrrrrrrrrrrrrrrrr;", 23);
        fault(2, "rrrrrrrrrrrrrrrrrrrrrrrr", Check.NONE);
        StatueCoats x = new StatueCoats();
        Check.due("fault -1", x.fault(-1), Check.BAD);
        Check.due("fault 3", x.fault(3), Check.BAD);
    }

    private static void statues() {
        StatueCoats x = Check.town("123n;987s;100s", "", "");
        Check.dueRow("statue 0", what -> x.statue(0, what), 1, 2, 3, 1, Check.BAD);
        Check.dueRow("statue 1", what -> x.statue(1, what), 9, 8, 7, 0, Check.BAD);
        Check.dueRow("statue 2", what -> x.statue(2, what), 1, 0, 0, 0, Check.BAD);
        Check.due("statue 3", x.statue(3, 0), Check.BAD);
        Check.due("statue -1", x.statue(-1, 0), Check.BAD);
        Check.due("statue what -1", x.statue(0, -1), Check.BAD);
        x.type(0, ';');
        Check.due("with a fault there is none", x.statue(0, 0), Check.BAD);
    }

    private static void clothes() {
        StatueCoats x = Check.town("", "10w01;99l99;57h35", "");
        Check.dueRow("cloth 0", what -> x.cloth(0, what), 10, 0, 0, 1, Check.BAD);
        Check.dueRow("cloth 1", what -> x.cloth(1, what), 99, 1, 9, 9, Check.BAD);
        Check.dueRow("cloth 2", what -> x.cloth(2, what), 57, 2, 3, 5, Check.BAD);
        Check.due("cloth 3", x.cloth(3, 0), Check.BAD);
        Check.due("cloth -1", x.cloth(-1, 0), Check.BAD);
        Check.due("cloth what -1", x.cloth(0, -1), Check.BAD);
        Check.typeAll(x, 2, "rsm");
        Check.due("as told, whatever comes", x.cloth(2, 3), 5);
        x.undo(1);
        Check.due("with a fault there is none", x.cloth(0, 0), Check.BAD);
    }

    private static void seasons() {
        StatueCoats x = Check.town("", "", ".rfsm");
        Check.dueRow("season", x::season, 0, 1, 2, 3, 4, Check.NONE);
        Check.due("season 23", x.season(23), Check.NONE);
        Check.due("season 24", x.season(24), Check.BAD);
        Check.due("season -1", x.season(-1), Check.BAD);
        x.type(2, 'x');
        Check.due("with a fault there is none", x.season(0), Check.NONE);
        Check.retype(x, 2, "mmmmmmmmmmmmmmmmmmmmmmmf");
        Check.due("the last month", x.season(23), 2);
    }

    private static void settings() {
        StatueCoats x = new StatueCoats();
        Check.due("set slack", x.set(0, 0), 15);
        Check.due("set slack", x.set(0, 40), 0);
        Check.due("set slack 41", x.set(0, 41), Check.BAD);
        Check.due("set slack -1", x.set(0, -1), Check.BAD);
        Check.due("slack stays", x.count(6), 40);
        Check.due("set way", x.set(1, 1), 0);
        Check.due("set way 2", x.set(1, 2), Check.BAD);
        Check.due("set way -1", x.set(1, -1), Check.BAD);
        Check.due("way stays", x.set(1, 0), 1);
        Check.due("set 2", x.set(2, 0), Check.BAD);
        Check.due("set -1", x.set(-1, 0), Check.BAD);
        Check.due("way is not slack", x.count(6), 40);
    }
}
