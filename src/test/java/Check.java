import java.lang.reflect.InvocationTargetException;
import java.lang.reflect.Method;
import java.lang.reflect.Modifier;
import java.util.Arrays;
import java.util.Comparator;

/** What the tests of the project share: due answers, and towns typed from plain texts. */
final class Check {
    static final int NONE = -1, BAD = -2, NOT = -3, FULL = -4;
    static final int NULL = -11, INDEX = -12, CAST = -13, STORE = -14, SIZE = -15;
    static final long LONG_BAD = Long.MIN_VALUE + 2;

    private static int asked;
    private static int wrong;
    private static String running = "";

    private Check() {
    }

    static void due(String call, long got, long want) {
        asked++;
        if (got != want) {
            wrong++;
            if (wrong <= 40) {
                System.out.println(running + call + " answered " + got + ", due is " + want);
            }
        }
    }

    static void dueTrue(String what, boolean holds) {
        due(what, holds ? 1 : 0, 1);
    }

    /** What one call answers for i from 0 on, each as due. */
    interface Call {
        long of(int i);
    }

    static void dueRow(String call, Call got, long... want) {
        for (int i = 0; i < want.length; i++) {
            due(call + " at " + i, got.of(i), want[i]);
        }
    }

    static void typeAll(StatueCoats x, int text, String bytes) {
        for (int i = 0; i < bytes.length(); i++) {
            x.type(text, bytes.charAt(i));
        }
    }

    static void retype(StatueCoats x, int text, String bytes) {
        x.wipe(text);
        typeAll(x, text, bytes);
    }

    static StatueCoats town(String statues, String clothes, String seasons) {
        StatueCoats x = new StatueCoats();
        typeAll(x, 0, statues);
        typeAll(x, 1, clothes);
        typeAll(x, 2, seasons);
        return x;
    }

    /**
     * Runs each case of a test: its static methods without parameters whose names tell the promise's number (p07_..) or
     * the part of the document ahead of the promises (terms_..); each promise from first to last must have one.
     */
    static void cases(Class<?> test, int first, int last) {
        Method[] methods = test.getDeclaredMethods();
        Arrays.sort(methods, Comparator.comparing(Method::getName));
        boolean[] isHeld = new boolean[last + 1];
        for (Method method : methods) {
            String name = method.getName();
            boolean isCase = name.matches("(p[0-9]{2}|terms|face)_.+") && method.getParameterCount() == 0;
            if (!isCase || !Modifier.isStatic(method.getModifiers())) {
                continue;
            }
            int before = asked;
            runCase(method);
            dueTrue(name + " asks something", asked > before);
            int promise = name.charAt(0) == 'p' ? Integer.parseInt(name.substring(1, 3)) : -1;
            if (promise >= 0 && promise <= last) {
                isHeld[promise] = true;
            }
        }
        for (int promise = first; promise <= last; promise++) {
            dueTrue("promise " + promise + " has a case", isHeld[promise]);
        }
    }

    private static void runCase(Method method) {
        running = method.getName() + ": ";
        try {
            method.setAccessible(true);
            method.invoke(null);
        } catch (InvocationTargetException thrown) {
            dueTrue("it throws " + thrown.getCause(), false);
        } catch (IllegalAccessException closed) {
            dueTrue("it cannot be run", false);
        }
        running = "";
    }

    static void end(String name) {
        System.out.println(name + ": " + asked + " answers asked, " + wrong + " not as due");
        if (wrong != 0) {
            System.exit(1);
        }
    }
}
