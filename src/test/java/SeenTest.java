/** Promises 19 to 25: what was seen, who changed, where to look, moths by chance, weather by a seed. */
public final class SeenTest {
    public static void main(String[] args) {
        seeing();
        reading();
        readingBehindOthers();
        swapped();
        swappedNever();
        looking();
        moths();
        mothsExactly();
        mothsWrong();
        weather();
        Check.end("SeenTest");
    }

    private static void seeing() {
        StatueCoats x = new StatueCoats();
        Check.due("nothing to forget", x.forget(), 0);
        Check.due("first", x.seen(0, 0, Check.NONE), 1);
        Check.due("greatest", x.seen(24, 7, 7), 2);
        Check.due("the same again", x.seen(24, 7, 7), 3);
        int[][] wrong = {{-1, 0, 0}, {25, 0, 0}, {0, -1, 0}, {0, 8, 0}, {0, 0, -2}, {0, 0, 8}};
        for (int[] row : wrong) {
            Check.due("wrong", x.seen(row[0], row[1], row[2]), Check.BAD);
        }
        for (int k = 4; k <= 8; k++) {
            Check.due("more", x.seen(1, 1, 1), k);
        }
        Check.due("a ninth", x.seen(1, 1, 1), Check.FULL);
        Check.due("BAD ahead of FULL", x.seen(25, 1, 1), Check.BAD);
        Check.due("count", x.count(7), 8);
        Check.due("forget", x.forget(), 8);
        Check.due("count", x.count(7), 0);
    }

    private static void reading() {
        StatueCoats x = new StatueCoats();
        Check.due("read -1", x.read(-1), Check.BAD);
        Check.due("read 4", x.read(4), Check.BAD);
        Check.due("read a lost one", x.read(3), Check.NULL);
        Check.due("told", x.count(8), 1);
        x.sheet(3, 0, 0);
        Check.due("nothing", x.read(3), 0);
        x.sheet(3, 0, 2);
        Check.due("none is whole", x.read(3), 0);
        x.sheet(3, 2, 8);
        x.lay(3, 2, 2, -1);
        Check.due("two are whole", x.read(3), 2);
        Check.due("two", x.forget(), 2);
        x.lay(3, 2, 0, 25);
        Check.due("the first may not be", x.read(3), 0);
        x.lay(3, 2, 0, 24);
        x.lay(3, 2, 5, 8);
        Check.due("the second may not be", x.read(3), 1);
        Check.due("one", x.count(7), 1);
    }

    private static void readingBehindOthers() {
        StatueCoats x = Check.town("100n;200n;300n", "10w01;20w01;30w01", "");
        x.seen(0, 0, 1);
        x.sheet(0, 1, 60);
        x.lay(0, 1, 1, 1);
        Check.due("those that there is room for", x.read(0), 7);
        Check.due("eight", x.count(7), 8);
        Check.due("no room", x.read(0), 0);
        x.forget();
        Check.due("eight of twenty", x.read(0), 8);
        Check.due("eight", x.forget(), 8);
        x.seen(0, 0, 1);
        x.sheet(0, 1, 3);
        x.lay(0, 1, 1, 1);
        Check.due("one more", x.read(0), 1);
        Check.due("both count", x.swapped(0), 1);
        Check.due("0 and 1", x.swapped(1), 1);
        x.forget();
        x.sheet(0, 2, 9);
        int[] items = {0, 0, 0, 0, 1, 2, 0, 2, 1};
        for (int i = 0; i < items.length; i++) {
            x.lay(0, 2, i, items[i]);
        }
        Check.due("three by threes", x.read(0), 3);
        Check.due("1 and 2", x.swapped(1), 8 + 2);
        Check.due("and no other", x.swapped(0), 1);
    }

    private static void swapped() {
        StatueCoats x = Check.town("100n;200n;300n;900s", "10w09;20w09;30w09", "..m");
        Check.due("all pairs", x.swapped(0), 6);
        Check.due("the least", x.swapped(1), 1);
        x.seen(3, 0, 0);
        Check.due("0 has not changed", x.swapped(0), 3);
        Check.due("1 and 2", x.swapped(1), 8 + 2);
        x.seen(1, 2, Check.NONE);
        Check.due("2 and 3", x.swapped(0), 1);
        Check.due("2 and 3", x.swapped(1), 2 * 8 + 3);
        x.seen(2, 3, 2);
        Check.due("still", x.swapped(0), 1);
        x.seen(2, 3, Check.NONE);
        Check.due("no pair", x.swapped(0), 0);
        Check.due("no pair", x.swapped(1), Check.NONE);
        Check.due("swapped 2", x.swapped(2), Check.BAD);
        Check.due("swapped -1", x.swapped(-1), Check.BAD);
    }

    private static void swappedNever() {
        StatueCoats x = Check.town("100n;200n", "", "r");
        x.seen(1, 1, Check.NONE);
        Check.due("both bare", x.swapped(0), 1);
        x.seen(2, 1, Check.NONE);
        Check.due("no such months", x.swapped(0), 0);
        x.type(2, 'r');
        Check.due("now there are", x.swapped(0), 1);
        x.seen(0, 2, Check.NONE);
        Check.due("no such statue", x.swapped(0), 0);
        Check.typeAll(x, 0, ";300n");
        Check.due("now there is", x.swapped(0), 3);
        x.seen(0, 2, 7);
        Check.due("no such clothes", x.swapped(0), 0);
        StatueCoats y = Check.town("100n", "", "");
        Check.due("one is no pair", y.swapped(0), 0);
        Check.due("one is no pair", y.swapped(1), Check.NONE);
    }

    private static void looking() {
        // Behind no months only 0 is dressed and the bare ones are alike; behind one all three are dressed.
        StatueCoats y = Check.town("100n;200n;300n", "11w01;22w01;33w01", "r");
        y.set(0, 1);
        Check.dueRow("bare", m -> y.behind(m, 0), 6, 0);
        Check.due("0 and 2 tell more behind rain", y.look(1), 1);
        Check.due("0 wears its own in one of three", y.look(0), 1);
        Check.due("2 is seen bare in all but one", y.look(2), 1);
        Check.retype(y, 1, "11w01;22w01");
        Check.due("one is bare still", y.look(0), 1);
        Check.retype(y, 1, "11w01;22w01;33w01");
        StatueCoats z = Check.town("100n;200n", "99l01;99l01;99l01;99l01;99l01;99l01;99l01;22w01", "r");
        z.set(0, 0);
        Check.due("the last of clothes", z.wears(1, 1), 7);
        Check.due("one pair wears alike anyhow", z.look(0), 0);
        Check.retype(y, 2, "");
        Check.due("no months, no choice", y.look(1), 0);
        Check.retype(y, 2, "..");
        Check.due("of like ones the fewest", y.look(2), 0);
        y.seen(0, 7, 0);
        Check.retype(y, 2, "r");
        Check.due("no pairs", y.look(2), 0);
        Check.due("look 3", y.look(3), Check.BAD);
        Check.due("look -1", y.look(-1), Check.BAD);
    }

    private static void fraction(StatueCoats x, int c, int cloth, int months, long above, long below) {
        Check.due("above", x.moths(c, cloth, months, 0), above);
        Check.due("below", x.moths(c, cloth, months, 1), below);
    }

    private static void moths() {
        StatueCoats x = Check.town("", "50w01;50w02;50w03;50h02;50l01", "mr.m");
        fraction(x, 8, 0, 0, 1, 1);
        fraction(x, 8, 0, 1, 1, 2);
        fraction(x, 8, 0, 3, 1, 2);
        fraction(x, 8, 0, 4, 1, 4);
        fraction(x, 4, 0, 4, 9, 16);
        fraction(x, 8, 1, 4, 1, 4);
        fraction(x, 8, 2, 4, 3, 4);
        fraction(x, 1, 2, 4, 255, 256);
        fraction(x, 8, 3, 4, 3, 4);
        fraction(x, 8, 4, 4, 1, 1);
        fraction(x, 16, 4, 4, 1, 1);
        fraction(x, 16, 0, 1, 0, 1);
        fraction(x, 16, 2, 4, 0, 1);
        fraction(x, 0, 0, 4, 1, 1);
    }

    private static void mothsExactly() {
        StatueCoats x = Check.town("", "50w01;50h09;50w09", "mmmmmmmmmmmmmm");
        long twelve = 1L << 48;
        fraction(x, 1, 0, 12, 129746337890625L, twelve);
        fraction(x, 15, 0, 12, 1, twelve);
        long less = 0;
        // Nine or more of twelve come, at an even chance.
        for (long bits = 0; bits < 4096; bits++) {
            less += Long.bitCount(bits) < 9 ? 1 : 0;
        }
        Check.due("by hand", less, 3797);
        fraction(x, 8, 1, 12, 3797, 4096);
        fraction(x, 8, 2, 12, 794 / 2, 4096 / 2);
        Check.due("13 months", x.moths(8, 0, 13, 0), Check.LONG_BAD);
    }

    private static void mothsWrong() {
        StatueCoats x = Check.town("", "50w01", "mm");
        Check.due("c -1", x.moths(-1, 0, 0, 0), Check.LONG_BAD);
        Check.due("c 17", x.moths(17, 0, 0, 0), Check.LONG_BAD);
        Check.due("cloth 1", x.moths(0, 1, 0, 0), Check.LONG_BAD);
        Check.due("cloth -1", x.moths(0, -1, 0, 0), Check.LONG_BAD);
        Check.due("months -1", x.moths(0, 0, -1, 0), Check.LONG_BAD);
        Check.due("months 3", x.moths(0, 0, 3, 0), Check.LONG_BAD);
        Check.due("what 2", x.moths(0, 0, 0, 2), Check.LONG_BAD);
        Check.due("what -1", x.moths(0, 0, 0, -1), Check.LONG_BAD);
        Check.due("all as told", x.moths(16, 0, 2, 1), 1);
    }

    private static int lotOf5(int seed) {
        return (int) (((seed * 1103515245L + 12345L) >> 16 & 0xffff) % 5);
    }

    private static void weather() {
        StatueCoats x = Check.town("500n;550s", "50w02;51l01", "rrrrrrrr");
        int seeds = 0;
        for (int seed = -60; seed < 60; seed++) {
            int lot = lotOf5(seed);
            int large = lot == 1 ? 45 : 50;
            int dressed = lot == 1 || lot == 4 ? 1 : 2;
            Check.due("large by seed " + seed, x.weather(seed, 1, 0), large);
            Check.due("linen by seed " + seed, x.weather(seed, 1, 1), 51);
            Check.due("dressed by seed " + seed, x.weather(seed, 1, Check.NONE), dressed);
            seeds |= 1 << lot;
        }
        Check.due("each of five has come", seeds, 31);
        Check.due("n 0", x.weather(1, 0, 0), Check.BAD);
        Check.due("n 41", x.weather(1, 41, 0), Check.BAD);
        Check.due("cloth 2", x.weather(1, 1, 2), Check.BAD);
        Check.due("cloth -2", x.weather(1, 1, -2), Check.BAD);
        Check.due("linen behind forty", x.weather(Integer.MIN_VALUE, 40, 1), 51);
        Check.due("the seasons are as they were", x.wears(0, 0), 0);
        Check.retype(x, 2, "rrrrrrrrrrrrrrrrrrrrrrrr");
        Check.due("behind all months", x.is(24, 0, 0), 9);
        x.weather(0, 1, 0);
        x.weather(0, 1, Check.NONE);
        Check.due("weather leaves them", x.is(24, 0, 0), 9);
        Check.due("and who wears what", x.behind(24, 0), 2);
    }
}
