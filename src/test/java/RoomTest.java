import java.lang.management.ManagementFactory;
import java.lang.reflect.Array;
import java.lang.reflect.Field;
import java.lang.reflect.Modifier;
import java.util.Collections;
import java.util.IdentityHashMap;
import java.util.Set;

/** How much room an object takes (rule 12), and that no call but law() and a first image() makes anything. */
public final class RoomTest {
    private static final Check CHECK = new Check("room");
    private static final com.sun.management.ThreadMXBean BEAN =
            (com.sun.management.ThreadMXBean) ManagementFactory.getThreadMXBean();

    private final Set<Object> seen = Collections.newSetFromMap(new IdentityHashMap<>());
    private int cells = 0;

    private void walk(Object o) throws ReflectiveOperationException {
        if (o == null || o instanceof String || !seen.add(o)) {
            return;
        }
        Class<?> type = o.getClass();
        if (type.isArray()) {
            cells += Array.getLength(o);
            for (int k = 0; !type.getComponentType().isPrimitive() && k < Array.getLength(o); k++) {
                walk(Array.get(o, k));
            }
            return;
        }
        for (Field f : type.getDeclaredFields()) {
            if (!Modifier.isStatic(f.getModifiers())) {
                cells++;
                f.setAccessible(true);
                if (!f.getType().isPrimitive()) {
                    walk(f.get(o));
                }
            }
        }
    }

    private static void takes(String what, BrokenBread x, int objects, int cells) throws ReflectiveOperationException {
        RoomTest room = new RoomTest();
        room.walk(x);
        CHECK.isSo(what + ": " + room.seen.size() + " objects", room.seen.size() <= objects);
        CHECK.isSo(what + ": " + room.cells + " fields and elements", room.cells <= cells);
    }

    /** All that asks, and all that is done, of an upland that is full. */
    private static void useAll(BrokenBread x, int[][] orders) {
        for (int what = -1; what < 16; what++) {
            x.of(3, what); x.asks(3, 4, what); x.largest(what); x.tables(what); x.newHarms(what); x.leftOut(what);
            x.seat(127, what); x.chain(0, 6, what); x.bridges(what); x.doubted(what); x.ask(3, what); x.count(what);
            x.lasts(what); x.fedBy(what); x.few(20, 99); x.compare(what); x.drawn(what, 2); x.fitting(what);
        }
        x.circles(); x.crumbs(); x.fault(); x.stopped(); x.status(); x.forget(); x.sat(127);
        x.harm(0, 1, 7); x.harm(0, 1, 8); x.feast(3); x.pardon(0, 1); x.pass(); x.undo(); x.terms(2, 3); x.force(0);
        x.seasons(77, 60); x.image(0); x.back(0); x.image(1); x.back(1);
        for (int[] five : orders) {
            x.feed(five[0], five[1], five[2], five[3], five[4]);
        }
        x.orders();
        x.feed(0x00010900, 0x02010900, 0, 0, 0);
        x.row();
    }

    private static int[][] fives(String text) {
        byte[] bytes = text.getBytes(java.nio.charset.StandardCharsets.ISO_8859_1);
        int[][] fives = new int[(bytes.length + 19) / 20][5];
        for (int k = 0; k < fives.length * 5; k++) {
            fives[k / 5][k % 5] = Check.word(bytes, 4 * k);
        }
        return fives;
    }

    public static void main(String[] args) throws ReflectiveOperationException {
        takes("a new one", new BrokenBread(), 80, 5000);
        BrokenBread x = Check.joined(7, 1, 12, 23, 34, 45, 56, 60);
        String clause = "counts [[[[weight]]]] + 1 if not (doer > other)";
        for (int k = 0; k < 6; k++) {
            CHECK.due("law " + k, Check.law(x, Check.repeated(clause + ";", 7) + clause), k);
        }
        int[][] orders = fives("pass times 20 if at 3 > 0; harm 0 to 1 by 1 + done % 2 times 20; feast 3 times 20");
        useAll(x, orders);
        CHECK.due("the ORDERS are not at fault", x.fault(), -1);
        long before = BEAN.getThreadAllocatedBytes(Thread.currentThread().getId());
        useAll(x, orders);
        long made = BEAN.getThreadAllocatedBytes(Thread.currentThread().getId()) - before;
        CHECK.isSo("nothing is made the second time: " + made + " bytes", made < 2000);
        takes("one with all LAWS and IMAGES", x, 120, 8000);
        CHECK.close();
    }
}
