import java.lang.management.ManagementFactory;

/** All calls of a run live in one room that nothing leaves: a call makes nothing, an object little. */
public final class RoomTest {
    private static final String STATUES = "100n;110n;120n;130n;140n;150n;160n;170n";
    private static final String CLOTHES = "10w09;11w09;12w09;13w09;14w09;15w09;16w09;17h09";

    public static void main(String[] args) {
        com.sun.management.ThreadMXBean room = (com.sun.management.ThreadMXBean) ManagementFactory.getThreadMXBean();
        StatueCoats x = Check.town(STATUES, CLOTHES, "rfsm.rfsm.rf");
        play(x);
        long before = room.getCurrentThreadAllocatedBytes();
        for (int k = 0; k < 40; k++) {
            play(x);
        }
        long perCall = (room.getCurrentThreadAllocatedBytes() - before) / (40 * 30);
        Check.dueTrue("calls make nothing, but " + perCall + " bytes each", perCall < 16);
        before = room.getCurrentThreadAllocatedBytes();
        for (int k = 0; k < 100; k++) {
            x = new StatueCoats();
        }
        long perObject = (room.getCurrentThreadAllocatedBytes() - before) / 100;
        Check.dueTrue("an object makes little, but " + perObject + " bytes", perObject < 40000);
        Check.end("RoomTest");
    }

    private static void play(StatueCoats x) {
        x.undo(2);
        x.type(2, 'm');
        x.set(0, 20);
        x.sheet(0, 2, 60);
        x.lay(0, 2, 0, 1);
        x.get(0, 2, 9);
        x.get(0, 1, 99);
        x.copy(0, 0, 0, 1, 30);
        x.read(0);
        x.write(3, 0);
        x.swapped(1);
        x.look(0);
        x.most(0, 3);
        x.round(3, 40, 2);
        x.sew(2, 100);
        x.moths(3, 7, 12, 0);
        x.weather(5, 40, -1);
        x.freezes(0);
        x.forget();
        x.lose(0);
        x.seen(0, 0, 0);
        for (int k = 0; k < 9; k++) {
            x.digest();
        }
    }
}
