/** What the tests of the project share: due answers, and towns typed from plain texts. */
final class Check {
    static final int NONE = -1, BAD = -2, NOT = -3, FULL = -4;
    static final int NULL = -11, INDEX = -12, CAST = -13, STORE = -14, SIZE = -15;
    static final long LONG_BAD = Long.MIN_VALUE + 2;

    private static int asked;
    private static int wrong;

    private Check() {
    }

    static void due(String call, long got, long want) {
        asked++;
        if (got != want) {
            wrong++;
            if (wrong <= 40) {
                System.out.println(call + " answered " + got + ", due is " + want);
            }
        }
    }

    static void dueTrue(String what, boolean holds) {
        due(what, holds ? 1 : 0, 1);
    }

    /** What one call answers for i from 0 on, each as due. */
    interface Call {
        long of(int i);
    }

    static void dueRow(String call, Call got, long... want) {
        for (int i = 0; i < want.length; i++) {
            due(call + " at " + i, got.of(i), want[i]);
        }
    }

    static void typeAll(StatueCoats x, int text, String bytes) {
        for (int i = 0; i < bytes.length(); i++) {
            x.type(text, bytes.charAt(i));
        }
    }

    static void retype(StatueCoats x, int text, String bytes) {
        x.wipe(text);
        typeAll(x, text, bytes);
    }

    static StatueCoats town(String statues, String clothes, String seasons) {
        StatueCoats x = new StatueCoats();
        typeAll(x, 0, statues);
        typeAll(x, 1, clothes);
        typeAll(x, 2, seasons);
        return x;
    }

    static void end(String name) {
        System.out.println(name + ": " + asked + " answers asked, " + wrong + " not as due");
        if (wrong != 0) {
            System.exit(1);
        }
    }
}
