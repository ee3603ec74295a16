import java.math.BigInteger;
import java.util.ArrayList;
import java.util.Arrays;
import java.util.Collections;
import java.util.Comparator;
import java.util.List;
import java.util.Random;

/** Random runs of up to 512 calls, each answer against a second program that follows the document word by word. */
public final class OracleTest {
    private static final int RUNS = 240;

    private final Random dice;
    private final int base;
    private final boolean isRough;
    private final StatueCoats x = new StatueCoats();
    private final Naive model = new Naive();

    /** A rough run types anything anywhere; the others keep their texts well, so that there is much to ask. */
    private OracleTest(int run) {
        dice = new Random(run);
        base = 1 + dice.nextInt(7);
        isRough = run % 5 == 0;
    }

    public static void main(String[] args) {
        int runs = args.length > 1 ? Integer.parseInt(args[1]) : RUNS;
        for (int run = 0; run < runs; run++) {
            new OracleTest(run).play(run);
        }
        Check.end("OracleTest");
    }

    private void play(int run) {
        int left = 512;
        if (!isRough) {
            left -= typeText(run, 0, statuesText()) + typeText(run, 1, clothesText()) + typeText(run, 2, seasonsText());
        }
        while (left > 0) {
            left -= !isRough && dice.nextInt(120) == 0 && left > 60 ? retypeSome(run) : ask(run);
        }
    }

    private int retypeSome(int run) {
        int text = dice.nextInt(3);
        Check.due("run " + run + " wipe", x.wipe(text), model.wipe(text));
        return 1 + typeText(run, text, text == 0 ? statuesText() : text == 1 ? clothesText() : seasonsText());
    }

    private int typeText(int run, int text, String bytes) {
        for (int i = 0; i < bytes.length(); i++) {
            Check.due("run " + run + " type", x.type(text, bytes.charAt(i)), model.type(text, bytes.charAt(i)));
        }
        return bytes.length();
    }

    private String statuesText() {
        StringBuilder text = new StringBuilder();
        int many = things();
        for (int k = 0; k < many; k++) {
            text.append(k == 0 ? "" : ";").append(base + dice.nextInt(3)).append(dice.nextInt(10));
            text.append(dice.nextInt(4) == 0 ? dice.nextInt(10) : 0).append("ns".charAt(dice.nextInt(2)));
        }
        return text.toString();
    }

    private String clothesText() {
        StringBuilder text = new StringBuilder();
        int many = things();
        for (int k = 0; k < many; k++) {
            text.append(k == 0 ? "" : ";").append(Math.min(99, 10 * base + dice.nextInt(35))).append("wlh".charAt(dice.nextInt(3)));
            text.append(dice.nextInt(10)).append(1 + dice.nextInt(9));
        }
        return text.toString();
    }

    private int things() {
        return dice.nextInt(4) == 0 ? dice.nextInt(9) : 5 + dice.nextInt(4);
    }

    private String seasonsText() {
        StringBuilder text = new StringBuilder();
        int many = dice.nextInt(3) == 0 ? dice.nextInt(25) : dice.nextInt(13);
        String months = dice.nextInt(3) == 0 ? "rm" : "rfsm.";
        for (int k = 0; k < many; k++) {
            text.append(months.charAt(dice.nextInt(months.length())));
        }
        return text.toString();
    }

    /** Mostly from the range told, at times a little outside it, at times far. */
    private int number(int from, int to) {
        int kind = dice.nextInt(40);
        if (kind == 0) {
            return dice.nextInt();
        }
        if (kind == 1) {
            return dice.nextBoolean() ? Integer.MIN_VALUE : Integer.MAX_VALUE;
        }
        return kind < 5 ? from - 2 + dice.nextInt(to - from + 5) : from + dice.nextInt(to - from + 1);
    }

    private int months() {
        return number(0, Math.max(0, model.seasons().length()));
    }

    private int statue() {
        return number(0, Math.max(0, model.statues().size() - 1));
    }

    private int cloth() {
        return number(0, Math.max(0, model.clothes().size() - 1));
    }

    private int ask(int run) {
        boolean edits = isRough || run % 5 == 1 && dice.nextInt(60) == 0;
        int kind = edits ? dice.nextInt(33) : 4 + dice.nextInt(29);
        int a, b, c, d, e;
        long got, want;
        switch (kind) {
            case 0: a = number(0, 2); b = "0123456789nswlh;rfm."
                .charAt(dice.nextInt(20)); got = x.type(a, b); want = model.type(a, b); break;
            case 1: a = number(0, 2); b = number(0, 255); if (dice.nextInt(4) > 0) return 0;
                got = x.type(a, b); want = model.type(a, b); break;
            case 2: a = number(0, 2); if (dice.nextInt(12) > 0) return 0; got = x.wipe(a); want = model.wipe(a); break;
            case 3: a = number(0, 2); got = x.undo(a); want = model.undo(a); break;
            case 4: a = number(0, 2); got = x.fault(a); want = model.fault(a); break;
            case 5: a = statue(); b = number(0, 3); got = x.statue(a, b); want = model.statue(a, b); break;
            case 6: a = cloth(); b = number(0, 3); got = x.cloth(a, b); want = model.cloth(a, b); break;
            case 7: a = number(0, 23); got = x.season(a); want = model.season(a); break;
            case 8: a = number(0, 1); b = number(0, a == 0 ? 40 : 1); got = x.set(a, b); want = model.set(a, b); break;
            case 9: a = months(); b = cloth(); c = number(0, 2); got = x.is(a, b, c); want = model.is(a, b, c); break;
            case 10: a = months(); b = cloth(); got = x.fits(a, b); want = model.fits(a, b); break;
            case 11: a = months(); b = statue(); got = x.wears(a, b); want = model.wears(a, b); break;
            case 12: a = months(); b = number(0, 1); got = x.behind(a, b); want = model.behind(a, b); break;
            case 13: a = number(0, 1); got = x.freezes(a); want = model.freezes(a); break;
            case 14: a = statue(); got = x.changes(a); want = model.changes(a); break;
            case 15: a = months(); b = number(-1, 7); got = x.most(a, b); want = model.most(a, b); break;
            case 16: a = number(0, 5); b = dice.nextBoolean() ? number(0, 30) : number(0, 99); c = number(-1, 5);
                got = x.round(a, b, c); want = model.round(a, b, c); break;
            case 17: a = months(); b = dice.nextBoolean() ? number(10, 200) : number(10, 400); got = x.sew(a, b); want = model.sew(a, b); break;
            case 18: a = dice.nextBoolean() ? months() : number(0, 24); b = dice.nextBoolean() ? statue() : number(0, 7);
                c = likelyCloth(a, b); if (dice.nextInt(3) > 0) return 0;
                got = x.seen(a, b, c); want = model.seen(a, b, c); break;
            case 19: if (dice.nextInt(3) > 0) return 0; got = x.forget(); want = model.forget(); break;
            case 20: a = number(0, 3); if (dice.nextInt(3) > 0) return 0; got = x.read(a); want = model.read(a); break;
            case 21: a = number(0, 1); got = x.swapped(a); want = model.swapped(a); break;
            case 22: a = statue(); got = x.look(a); want = model.look(a); break;
            case 23: a = number(0, 16); b = cloth(); c = dice.nextBoolean() ? months() : number(0, 12); d = number(0, 1);
                got = x.moths(a, b, c, d); want = model.moths(a, b, c, d); break;
            case 24: a = dice.nextInt(); b = number(1, 40); c = dice.nextBoolean() ? -1 : cloth();
                got = x.weather(a, b, c); want = model.weather(a, b, c); break;
            case 25: a = number(0, 3); b = number(0, 2); c = dice.nextBoolean() ? number(0, 9) : number(0, 60);
                got = x.sheet(a, b, c); want = model.sheet(a, b, c); break;
            case 26: a = number(0, 3); if (dice.nextInt(4) > 0) return 0; got = x.lose(a); want = model.lose(a); break;
            case 27: a = number(0, 3); b = formOf(a); c = number(0, 9); d = dice.nextInt(3) == 0 ? dice.nextInt() : number(-1, 8);
                got = x.lay(a, b, c, d); want = model.lay(a, b, c, d); break;
            case 28: a = number(0, 3); b = formOf(a); c = number(0, 9); got = x.get(a, b, c); want = model.get(a, b, c); break;
            case 29: a = number(0, 3); b = number(0, 6); c = number(0, 3); d = number(0, 6); e = number(0, 6);
                got = x.copy(a, b, c, d, e); want = model.copy(a, b, c, d, e); break;
            case 30: a = months(); b = number(0, 3); got = x.write(a, b); want = model.write(a, b); break;
            case 31: a = number(0, 8); got = x.count(a); want = model.count(a); break;
            default: if (dice.nextInt(6) > 0) return 0; got = x.digest(); want = model.digest(); break;
        }
        Check.due("run " + run + " call " + kind, got, want);
        return 1;
    }

    private int likelyCloth(int months, int statue) {
        int now = model.wears(months, statue);
        return now >= -1 && dice.nextInt(4) > 0 ? now : number(-1, 7);
    }

    private int formOf(int s) {
        return s >= 0 && s < 4 && dice.nextInt(5) > 0 ? model.formNow(s) : number(0, 2);
    }
}

/** The document, as plainly as it can be followed: nothing is kept but what was told, and all is found anew. */
final class Naive {
    private static final int NONE = -1, BAD = -2, NOT = -3, FULL = -4;
    private static final int[] MOST = {39, 47, 24};

    private final StringBuilder[] texts = {new StringBuilder(), new StringBuilder(), new StringBuilder()};
    private final List<int[]> seen = new ArrayList<>();
    private final Object[] sheets = new Object[4];
    private int slack = 15, way, finding;

    record Coat(int large, char stuff, int buttons, int cloth) {
        Coat behind(char month) {
            if (cloth == 0) {
                return this;
            }
            if (month == 'r') {
                int less = stuff == 'w' ? large / 10 : stuff == 'h' ? large / 20 : 0;
                return new Coat(large - less, stuff, buttons, cloth);
            }
            if (month == 's' && stuff == 'l' && buttons > 0) {
                return new Coat(large, stuff, buttons - 1, cloth);
            }
            if (month == 'm') {
                return new Coat(large, stuff, buttons, Math.max(0, cloth - (stuff == 'w' ? 2 : stuff == 'h' ? 1 : 0)));
            }
            return this;
        }
    }

    record Figure(int size, int place, int buttons, boolean north) {
    }

    int type(int text, int b) {
        if (text < 0 || text > 2 || b < 0 || b > 255) return BAD;
        if (texts[text].length() == MOST[text]) return FULL;
        texts[text].append((char) b);
        return texts[text].length();
    }

    int wipe(int text) {
        if (text < 0 || text > 2) return BAD;
        int had = texts[text].length();
        texts[text].setLength(0);
        return had;
    }

    int undo(int text) {
        if (text < 0 || text > 2) return BAD;
        if (texts[text].length() == 0) return NOT;
        texts[text].setLength(texts[text].length() - 1);
        return texts[text].length();
    }

    /** The longest start that some whole text goes on from, found by trying what could stand behind it. */
    int fault(int text) {
        if (text < 0 || text > 2) return BAD;
        String all = texts[text].toString();
        String whole = text == 0 ? "([1-9]\\d\\d[ns](;[1-9]\\d\\d[ns]){0,7})?"
            : text == 1 ? "([1-9]\\d[wlh]\\d[1-9](;[1-9]\\d[wlh]\\d[1-9]){0,7})?" : "[rfsm.]*";
        if (all.matches(whole)) return NONE;
        for (int end = all.length(); end > 0; end--) {
            if (goesOn(text, all.substring(0, end), whole)) return end;
        }
        return 0;
    }

    private static boolean goesOn(int text, String start, String whole) {
        String[] ends = text == 0 ? new String[] {"", "1", "111n", "11n", "1n", "n"}
            : text == 1 ? new String[] {"", "11w11", "1w11", "w11", "11", "1"} : new String[] {""};
        // A first 0 of LARGE can go on as far as the text tells: its fault is the second figure.
        String asIf = text == 1 ? start.replaceAll("(^|;)0$", "$11") : start;
        for (String end : ends) {
            if ((asIf + end).matches(whole)) return true;
        }
        return false;
    }

    List<Figure> statues() {
        List<Figure> all = new ArrayList<>();
        if (fault(0) != NONE || texts[0].length() == 0) return all;
        for (String one : texts[0].toString().split(";")) {
            all.add(new Figure(one.charAt(0) - '0', one.charAt(1) - '0', one.charAt(2) - '0', one.charAt(3) == 'n'));
        }
        return all;
    }

    List<Coat> clothes() {
        List<Coat> all = new ArrayList<>();
        if (fault(1) != NONE || texts[1].length() == 0) return all;
        for (String one : texts[1].toString().split(";")) {
            all.add(new Coat(Integer.parseInt(one.substring(0, 2)), one.charAt(2), one.charAt(3) - '0', one.charAt(4) - '0'));
        }
        return all;
    }

    String seasons() {
        return fault(2) == NONE ? texts[2].toString() : "";
    }

    int statue(int statue, int what) {
        if (statue < 0 || statue >= statues().size() || what < 0 || what > 3) return BAD;
        Figure f = statues().get(statue);
        return new int[] {f.size(), f.place(), f.buttons(), f.north() ? 1 : 0}[what];
    }

    int cloth(int cloth, int what) {
        if (cloth < 0 || cloth >= clothes().size() || what < 0 || what > 3) return BAD;
        Coat c = clothes().get(cloth);
        return new int[] {c.large(), "wlh".indexOf(c.stuff()), c.buttons(), c.cloth()}[what];
    }

    int season(int month) {
        if (month < 0 || month > 23) return BAD;
        return month >= seasons().length() ? NONE : ".rfsm".indexOf(seasons().charAt(month));
    }

    int set(int what, int v) {
        if (what < 0 || what > 1 || v < 0 || v > (what == 0 ? 40 : 1)) return BAD;
        int was = what == 0 ? slack : way;
        if (what == 0) slack = v; else way = v;
        return was;
    }

    private static List<Coat> through(List<Coat> from, String months) {
        List<Coat> all = new ArrayList<>();
        for (Coat c : from) {
            Coat now = c;
            for (char month : months.toCharArray()) now = now.behind(month);
            all.add(now);
        }
        return all;
    }

    private boolean wrongMonths(int months) {
        return months < 0 || months > seasons().length();
    }

    private List<Coat> clothesBehind(int months) {
        return through(clothes(), seasons().substring(0, months));
    }

    private boolean suits(Coat c, Figure f) {
        return c.cloth() > 0 && c.large() >= 10 * f.size() && c.large() <= 10 * f.size() + slack && c.buttons() >= f.buttons();
    }

    private int[] tailored(List<Coat> coats) {
        List<Figure> figures = statues();
        List<Integer> order = new ArrayList<>();
        for (int s = 0; s < figures.size(); s++) order.add(s);
        if (way == 1) order.sort(Comparator.comparing(s -> -figures.get(s).size()));
        int[] worn = new int[figures.size()];
        Arrays.fill(worn, NONE);
        List<Integer> taken = new ArrayList<>();
        for (int s : order) {
            List<Integer> can = new ArrayList<>();
            for (int c = 0; c < coats.size(); c++) {
                if (suits(coats.get(c), figures.get(s)) && !taken.contains(c)) can.add(c);
            }
            can.sort(Comparator.comparing((Integer c) -> coats.get(c).large()).thenComparing(c -> c));
            if (!can.isEmpty()) {
                worn[s] = can.get(0);
                taken.add(can.get(0));
            }
        }
        return worn;
    }

    private int[] wornBehind(int months) {
        return tailored(clothesBehind(months));
    }

    int is(int months, int cloth, int what) {
        if (wrongMonths(months) || cloth < 0 || cloth >= clothes().size() || what < 0 || what > 2) return BAD;
        Coat c = clothesBehind(months).get(cloth);
        return new int[] {c.large(), c.buttons(), c.cloth()}[what];
    }

    int fits(int months, int cloth) {
        if (wrongMonths(months) || cloth < 0 || cloth >= clothes().size()) return BAD;
        int bits = 0;
        for (int s = 0; s < statues().size(); s++) {
            if (suits(clothesBehind(months).get(cloth), statues().get(s))) bits += 1 << s;
        }
        return bits;
    }

    int wears(int months, int statue) {
        if (wrongMonths(months) || statue < 0 || statue >= statues().size()) return BAD;
        return wornBehind(months)[statue];
    }

    int behind(int months, int what) {
        if (wrongMonths(months) || what < 0 || what > 1) return BAD;
        int bits = 0;
        if (what == 0) {
            int[] worn = wornBehind(months);
            for (int s = 0; s < worn.length; s++) if (worn[s] == NONE) bits += 1 << s;
        } else {
            List<Coat> coats = clothesBehind(months);
            for (int c = 0; c < coats.size(); c++) if (coats.get(c).cloth() == 0) bits += 1 << c;
        }
        return bits;
    }

    int freezes(int what) {
        if (what < 0 || what > 1) return BAD;
        for (int month = 0; month < seasons().length(); month++) {
            if (seasons().charAt(month) != 'f') continue;
            int[] worn = wornBehind(month + 1);
            for (int s = 0; s < worn.length; s++) {
                if (worn[s] == NONE && statues().get(s).north()) return what == 0 ? month : s;
            }
        }
        return NONE;
    }

    int changes(int statue) {
        if (statue < 0 || statue >= statues().size()) return BAD;
        int many = 0;
        for (int m = 1; m <= seasons().length(); m++) {
            if (wornBehind(m)[statue] != wornBehind(m - 1)[statue]) many++;
        }
        return many;
    }

    /** Compares rows by how many are dressed, then as they stand, with 8 for none. */
    private static boolean better(int[] a, int[] b) {
        long inA = Arrays.stream(a).filter(v -> v < 8).count(), inB = Arrays.stream(b).filter(v -> v < 8).count();
        return inA != inB ? inA > inB : Arrays.compare(a, b) < 0;
    }

    private int[] bestRow(List<Coat> coats, int from, int taken, int[][][] known) {
        List<Figure> figures = statues();
        if (from == figures.size()) return new int[0];
        if (known[from][taken] != null) return known[from][taken];
        int[] best = null;
        for (int c = 0; c <= coats.size(); c++) {
            boolean none = c == coats.size();
            if (!none && ((taken >> c & 1) == 1 || !suits(coats.get(c), figures.get(from)))) continue;
            int[] rest = bestRow(coats, from + 1, none ? taken : taken + (1 << c), known);
            int[] row = new int[rest.length + 1];
            row[0] = none ? 8 : c;
            System.arraycopy(rest, 0, row, 1, rest.length);
            if (best == null || better(row, best)) best = row;
        }
        known[from][taken] = best;
        return best;
    }

    int most(int months, int i) {
        if (wrongMonths(months) || i < -1 || i > 7) return BAD;
        int[] row = bestRow(clothesBehind(months), 0, 0, new int[8][256][]);
        if (i == NONE) return (int) Arrays.stream(row).filter(v -> v < 8).count();
        return i >= row.length || row[i] == 8 ? NONE : row[i];
    }

    private static void orders(List<Integer> left, List<Integer> row, List<List<Integer>> all) {
        if (left.isEmpty()) all.add(new ArrayList<>(row));
        for (Integer one : left) {
            List<Integer> rest = new ArrayList<>(left);
            rest.remove(one);
            row.add(one);
            orders(rest, row, all);
            row.remove(row.size() - 1);
        }
    }

    int round(int statue, int time, int i) {
        List<Figure> figures = statues();
        if (statue < 0 || statue > 5 || statue >= figures.size() || time < 0 || time > 99 || i < -1 || i > 5) return BAD;
        List<Integer> first = new ArrayList<>();
        for (int s = 0; s < Math.min(6, figures.size()); s++) first.add(s);
        List<List<Integer>> all = new ArrayList<>();
        orders(first, new ArrayList<>(), all);
        Collections.reverse(all);
        int best = Integer.MAX_VALUE;
        List<Integer> row = null;
        for (List<Integer> one : all) {
            int now = 0, place = 0, sum = 0;
            boolean late = false;
            for (int s : one) {
                now += Math.abs(place - figures.get(s).place()) + 1;
                place = figures.get(s).place();
                sum += now;
                late |= s == statue && now > time;
            }
            if (!late && sum <= best) {
                best = sum;
                row = one;
            }
        }
        if (row == null) return NONE;
        return i == NONE ? best : i < row.size() ? row.get(i) : NONE;
    }

    int sew(int months, int large) {
        if (wrongMonths(months) || large < 10 || large > 400) return BAD;
        List<Coat> coats = clothesBehind(months);
        long best = Long.MAX_VALUE;
        for (int bits = 0; bits < 1 << coats.size(); bits++) {
            int sum = 0, cloth = 0, many = 0;
            boolean gone = false;
            for (int c = 0; c < coats.size(); c++) {
                if ((bits >> c & 1) == 0) continue;
                gone |= coats.get(c).cloth() == 0;
                sum += coats.get(c).large();
                cloth += coats.get(c).cloth();
                many++;
            }
            if (!gone && sum >= large) best = Math.min(best, cloth * 1000000L + many * 1000L + bits);
        }
        return best == Long.MAX_VALUE ? NONE : (int) (best % 1000);
    }

    int seen(int months, int statue, int cloth) {
        if (months < 0 || months > 24 || statue < 0 || statue > 7 || cloth < -1 || cloth > 7) return BAD;
        if (seen.size() == 8) return FULL;
        seen.add(new int[] {months, statue, cloth});
        return seen.size();
    }

    int forget() {
        int had = seen.size();
        seen.clear();
        return had;
    }

    int read(int s) {
        if (s < 0 || s > 3) return BAD;
        if (sheets[s] == null) return found(1);
        int many = 0;
        for (int at = 0; at + 3 <= size(s); at += 3) {
            if (seen(item(s, at), item(s, at + 1), item(s, at + 2)) < 0) break;
            many++;
        }
        return many;
    }

    private int wornBySwap(int[] pair, int months, int statue) {
        int[] worn = wornBehind(months).clone();
        int kept = worn[pair[0]];
        worn[pair[0]] = worn[pair[1]];
        worn[pair[1]] = kept;
        return worn[statue];
    }

    private List<int[]> pairs() {
        List<int[]> all = new ArrayList<>();
        int n = statues().size();
        for (int a = 0; a < n; a++) {
            for (int b = a + 1; b < n; b++) {
                int[] pair = {a, b};
                boolean so = true;
                for (int[] one : seen) {
                    so = so && one[0] <= seasons().length() && one[1] < n && wornBySwap(pair, one[0], one[1]) == one[2];
                }
                if (so) all.add(pair);
            }
        }
        return all;
    }

    int swapped(int what) {
        if (what < 0 || what > 1) return BAD;
        List<int[]> all = pairs();
        if (what == 0) return all.size();
        return all.stream().mapToInt(p -> 8 * p[0] + p[1]).min().orElse(NONE);
    }

    int look(int statue) {
        if (statue < 0 || statue >= statues().size()) return BAD;
        List<int[]> all = pairs();
        int best = 0, bestAlike = Integer.MAX_VALUE;
        for (int m = 0; m <= seasons().length(); m++) {
            int greatest = 0;
            for (int worn = -1; worn < 8; worn++) {
                int alike = 0;
                for (int[] pair : all) if (wornBySwap(pair, m, statue) == worn) alike++;
                greatest = Math.max(greatest, alike);
            }
            if (greatest < bestAlike) {
                bestAlike = greatest;
                best = m;
            }
        }
        return best;
    }

    /** Each way in which moths come or not, one by one. */
    long moths(int c, int cloth, int months, int what) {
        if (c < 0 || c > 16 || cloth < 0 || cloth >= clothes().size() || wrongMonths(months) || months > 12 || what < 0 || what > 1) {
            return Long.MIN_VALUE + 2;
        }
        int nights = (int) seasons().substring(0, months).chars().filter(m -> m == 'm').count();
        BigInteger above = BigInteger.ZERO, below = BigInteger.valueOf(16).pow(nights);
        for (int come = 0; come < 1 << nights; come++) {
            int many = Integer.bitCount(come);
            Coat coat = through(List.of(clothes().get(cloth)), "m".repeat(many)).get(0);
            if (coat.cloth() > 0) {
                above = above.add(BigInteger.valueOf(c).pow(many).multiply(BigInteger.valueOf(16 - c).pow(nights - many)));
            }
        }
        BigInteger shared = above.gcd(below);
        return (what == 0 ? above : below).divide(shared).longValueExact();
    }

    int weather(int seed, int n, int cloth) {
        if (n < 1 || n > 40 || cloth < -1 || cloth >= clothes().size()) return BAD;
        StringBuilder months = new StringBuilder();
        BigInteger now = BigInteger.valueOf(seed);
        for (int k = 0; k < n; k++) {
            now = BigInteger.valueOf(now.multiply(BigInteger.valueOf(1103515245)).add(BigInteger.valueOf(12345)).intValue());
            months.append(".rfsm".charAt((int) ((now.longValue() & 0xffffffffL) / 65536 % 5)));
        }
        List<Coat> coats = through(clothes(), months.toString());
        return cloth == NONE ? (int) Arrays.stream(tailored(coats)).filter(w -> w != NONE).count() : coats.get(cloth).large();
    }

    private int found(int number) {
        finding = number;
        return -10 - number;
    }

    int formNow(int s) {
        return sheets[s] instanceof byte[] ? 0 : sheets[s] instanceof short[] ? 1 : 2;
    }

    private int size(int s) {
        return java.lang.reflect.Array.getLength(sheets[s]);
    }

    private int item(int s, int i) {
        return java.lang.reflect.Array.getInt(sheets[s], i);
    }

    private void put(int s, int form, int i, int v) {
        Object row = sheets[s];
        if (form == 0) ((byte[]) row)[i] = (byte) v;
        else if (form == 1) ((short[]) row)[i] = (short) v;
        else ((int[]) row)[i] = v;
    }

    int sheet(int s, int form, int n) {
        if (s < 0 || s > 3 || form < 0 || form > 2 || n > 60) return BAD;
        try {
            sheets[s] = form == 0 ? (Object) new byte[n] : form == 1 ? new short[n] : new int[n];
            return n;
        } catch (NegativeArraySizeException e) {
            return found(5);
        }
    }

    int lose(int s) {
        if (s < 0 || s > 3) return BAD;
        if (sheets[s] == null) return found(1);
        int had = size(s);
        sheets[s] = null;
        return had;
    }

    int lay(int s, int form, int i, int v) {
        if (s < 0 || s > 3 || form < 0 || form > 2) return BAD;
        try {
            put(s, form, i, v);
            return 1;
        } catch (NullPointerException e) {
            return found(1);
        } catch (ClassCastException e) {
            return found(3);
        } catch (ArrayIndexOutOfBoundsException e) {
            return found(2);
        }
    }

    int get(int s, int form, int i) {
        if (s < 0 || s > 3 || form < 0 || form > 2) return Integer.MIN_VALUE;
        try {
            Object row = sheets[s];
            return form == 0 ? ((byte[]) row)[i] : form == 1 ? ((short[]) row)[i] : ((int[]) row)[i];
        } catch (NullPointerException e) {
            found(1);
        } catch (ClassCastException e) {
            found(3);
        } catch (ArrayIndexOutOfBoundsException e) {
            found(2);
        }
        return Integer.MIN_VALUE;
    }

    @SuppressWarnings("SuspiciousSystemArraycopy")
    int copy(int s, int i, int t, int j, int n) {
        if (s < 0 || s > 3 || t < 0 || t > 3) return BAD;
        try {
            System.arraycopy(sheets[s], i, sheets[t], j, n);
            return 1;
        } catch (NullPointerException e) {
            return found(1);
        } catch (ArrayStoreException e) {
            return found(4);
        } catch (IndexOutOfBoundsException e) {
            return found(2);
        }
    }

    int write(int months, int s) {
        if (wrongMonths(months) || s < 0 || s > 3) return BAD;
        if (sheets[s] == null) return found(1);
        int[] worn = wornBehind(months);
        int many = Math.min(worn.length, size(s));
        for (int k = 0; k < many; k++) put(s, formNow(s), k, worn[k]);
        return many;
    }

    int count(int what) {
        if (what < 0 || what > 8) return BAD;
        return new int[] {statues().size(), clothes().size(), seasons().length(), texts[0].length(), texts[1].length(),
            texts[2].length(), slack, seen.size(), finding}[what];
    }

    long digest() {
        List<Long> all = new ArrayList<>();
        for (int k = 0; k < 8; k++) all.add((long) count(k));
        for (int k = 0; k < 3; k++) all.add((long) fault(k));
        for (int s = 0; s < count(0); s++) {
            for (int k = 0; k < 4; k++) all.add((long) statue(s, k));
            all.add((long) changes(s));
            all.add((long) look(s));
        }
        for (int c = 0; c < count(1); c++) {
            for (int k = 0; k < 4; k++) all.add((long) cloth(c, k));
            for (int k = 0; k < 2; k++) all.add(moths(5, c, count(2), k));
            all.add((long) weather(7, 9, c));
        }
        for (int m : new int[] {0, count(2)}) {
            for (int s = 0; s < count(0); s++) all.add((long) wears(m, s));
            for (int c = 0; c < count(1); c++) {
                for (int k = 0; k < 3; k++) all.add((long) is(m, c, k));
                all.add((long) fits(m, c));
            }
            for (long v : new long[] {behind(m, 0), behind(m, 1), most(m, -1), most(m, 0), sew(m, 60)}) all.add(v);
        }
        for (long v : new long[] {freezes(0), freezes(1), round(0, 20, -1), round(0, 20, 0), swapped(0), swapped(1),
            weather(7, 9, -1)}) all.add(v);
        long h = 17;
        for (long v : all) h = 31 * h + v;
        return h;
    }
}
