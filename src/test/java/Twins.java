import java.util.ArrayList;
import java.util.List;

/** Two towns made alike: one is asked what must be refused; behind that, both must show the same. */
final class Twins {
    /** Outside of every range that the document tells, and within one when cut to a byte or a short. */
    static final int[] FAR = {Integer.MIN_VALUE, Integer.MIN_VALUE + 1, -65536, -256, 65536, Integer.MAX_VALUE};
    private static final int WIDEST = 6;

    interface Maker {
        StatueCoats make();
    }

    interface Act {
        long on(StatueCoats x);
    }

    interface NumberedAct {
        long on(StatueCoats x, int number);
    }

    private Twins() {
    }

    /** Three statues, three of clothes, four months, two seen, three sheets of three forms; sheet 3 is lost. */
    static StatueCoats busy() {
        StatueCoats x = Check.town("500n;420s;311n", "55w21;45l32;33h11", "rfsm");
        x.set(0, 20);
        x.set(1, 1);
        x.seen(0, 0, 0);
        x.seen(1, 1, Check.NONE);
        x.sheet(0, 0, 3);
        x.sheet(1, 1, 4);
        x.sheet(2, 2, 5);
        x.lay(0, 0, 0, 1);
        x.lay(0, 0, 2, -128);
        x.lay(1, 1, 3, -300);
        x.lay(2, 2, 4, 70000);
        return x;
    }

    /** As busy, and the latest finding is a STORE. */
    static StatueCoats busyWithStore() {
        StatueCoats x = busy();
        x.copy(0, 0, 1, 0, 1);
        return x;
    }

    /** The answer is a refusal that is no finding: nothing at all changes. */
    static void refused(String call, Maker maker, Act act, long want) {
        StatueCoats asked = maker.make(), twin = maker.make();
        Check.due(call, act.on(asked), want);
        Check.due(call + ", then count(8)", asked.count(8), twin.count(8));
        sameShown(call, asked, twin);
    }

    static void refused(String call, Act act, long want) {
        refused(call, Twins::busyWithStore, act, want);
    }

    /** The answer is a finding: nothing changes but count(8). */
    static void found(String call, Maker maker, Act act, long want, int number) {
        StatueCoats asked = maker.make(), twin = maker.make();
        Check.due(call, act.on(asked), want);
        Check.due(call + ", then count(8)", asked.count(8), number);
        sameShown(call, asked, twin);
    }

    static void found(String call, Act act, int number) {
        found(call, Twins::busy, act, -10 - number, number);
    }

    /** Each of the numbers, and each that is far off, is BAD at one place of a call. */
    static void bad(String call, NumberedAct act, int... wrong) {
        refusedAt(call, act, Check.BAD, wrong);
        refusedAt(call, act, Check.BAD, FAR);
    }

    static void refusedAt(String call, NumberedAct act, long want, int... wrong) {
        for (int number : wrong) {
            refused(call + " with " + number, x -> act.on(x, number), want);
        }
    }

    private static void sameShown(String call, StatueCoats asked, StatueCoats twin) {
        List<Long> shown = shown(asked), due = shown(twin);
        Check.due(call + ", then how much is shown", shown.size(), due.size());
        for (int k = 0; k < shown.size() && k < due.size(); k++) {
            Check.due(call + ", then answer " + k + " behind it", shown.get(k), due.get(k));
        }
    }

    /** All that calls can show of a town; it is undone, told another way and robbed of its sheets by that. */
    private static List<Long> shown(StatueCoats x) {
        List<Long> shown = new ArrayList<>();
        shown.add(x.digest());
        for (int what = 0; what <= 7; what++) {
            shown.add((long) x.count(what));
        }
        for (int s = 0; s < 4; s++) {
            showSheet(x, s, shown);
        }
        shown.add((long) x.set(1, 0));
        shown.add(x.digest());
        for (int text = 0; text < 3; text++) {
            for (int left = x.count(3 + text); left > 0; left = x.undo(text)) {
                shown.add((long) x.fault(text));
                shown.add(x.digest());
            }
        }
        shown.add((long) x.forget());
        return shown;
    }

    /** A finding ahead of all, so that what was found before is not shown. */
    private static void showSheet(StatueCoats x, int s, List<Long> shown) {
        shown.add((long) x.sheet(s, 0, -1));
        for (int form = 0; form < 3; form++) {
            for (int i = 0; i < WIDEST; i++) {
                shown.add((long) x.get(s, form, i));
                shown.add((long) x.count(8));
            }
        }
        shown.add((long) x.lose(s));
    }
}
