/** Promise 33: the digest, folded here anew from the calls that it is told by. */
public final class DigestTest {
    private static long h;

    public static void main(String[] args) {
        StatueCoats empty = new StatueCoats();
        same("empty", empty);
        same("one statue", Check.town("130n", "10w01", "r"));
        same("faults", Check.town("5", "0", "?"));
        StatueCoats x = Check.town("502n;430s;311n;695n;602s", "60w35;45l22;52h11;33w43;65w53;60l21", "rfsmrmfrs");
        x.set(1, 1);
        x.set(0, 30);
        Check.due("as told", x.digest(), 7796796901157258832L);
        same("nine months", x);
        x.seen(0, 0, 1);
        same("seen", x);
        x.set(1, 0);
        same("way", x);
        Check.typeAll(x, 2, "rrr");
        same("twelve months", x);
        x.type(2, 'm');
        same("thirteen months", x);
        x.wipe(0);
        same("no statues", x);
        same("seven statues", Check.town("100n;210n;320s;430n;540s;650s;760s", "10w91;22h92;33l93", "mmf"));
        long before = x.digest();
        x.sheet(0, 0, -1);
        Check.due("findings do not enter", x.digest(), before);
        Check.due("and it finds none", x.count(8), 5);
        Check.end("DigestTest");
    }

    private static void add(long v) {
        h = 31 * h + v;
    }

    private static void same(String name, StatueCoats x) {
        h = 17;
        for (int k = 0; k <= 7; k++) {
            add(x.count(k));
        }
        for (int k = 0; k <= 2; k++) {
            add(x.fault(k));
        }
        int statues = x.count(0), clothes = x.count(1), all = x.count(2);
        for (int s = 0; s < statues; s++) {
            for (int k = 0; k <= 3; k++) {
                add(x.statue(s, k));
            }
            add(x.changes(s));
            add(x.look(s));
        }
        for (int c = 0; c < clothes; c++) {
            for (int k = 0; k <= 3; k++) {
                add(x.cloth(c, k));
            }
            add(x.moths(5, c, all, 0));
            add(x.moths(5, c, all, 1));
            add(x.weather(7, 9, c));
        }
        for (int months : new int[] {0, all}) {
            addBehind(x, months, statues, clothes);
        }
        add(x.freezes(0));
        add(x.freezes(1));
        add(x.round(0, 20, -1));
        add(x.round(0, 20, 0));
        add(x.swapped(0));
        add(x.swapped(1));
        add(x.weather(7, 9, -1));
        Check.due("digest of " + name, x.digest(), h);
        Check.due("digest of " + name + " again", x.digest(), h);
    }

    private static void addBehind(StatueCoats x, int months, int statues, int clothes) {
        for (int s = 0; s < statues; s++) {
            add(x.wears(months, s));
        }
        for (int c = 0; c < clothes; c++) {
            for (int k = 0; k <= 2; k++) {
                add(x.is(months, c, k));
            }
            add(x.fits(months, c));
        }
        add(x.behind(months, 0));
        add(x.behind(months, 1));
        add(x.most(months, -1));
        add(x.most(months, 0));
        add(x.sew(months, 60));
    }
}
