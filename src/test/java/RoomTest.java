import com.sun.management.ThreadMXBean;
import java.lang.management.ManagementFactory;
import java.lang.reflect.Array;
import java.lang.reflect.Field;
import java.lang.reflect.Modifier;
import java.util.IdentityHashMap;

/** All calls of a run share one room: an object is small, and its calls make nothing. */
public final class RoomTest {
    private static final int CALLS = 512;
    private static final long ROOM_OBJECTS = 600_000;
    private static final long ROOM_ELEMENTS = 7_300_000;
    private static final long SLACK_BYTES = 64 * 1024;
    private static final Check CHECK = new Check();

    private final IdentityHashMap<Object, Object> seen = new IdentityHashMap<>();
    private long elements;

    public static void main(String[] args) throws IllegalAccessException {
        objectsAreSmall();
        callsMakeNothing();
        CHECK.finish();
    }

    /** A run may make a new object with each of its calls. */
    private static void objectsAreSmall() throws IllegalAccessException {
        RoomTest room = new RoomTest();
        room.enter(busyBench());
        System.out.println("an object: " + room.seen.size() + " objects, " + room.elements + " fields and elements");
        CHECK.isTrue("few objects", CALLS * (long) room.seen.size() < ROOM_OBJECTS);
        CHECK.isTrue("few elements", CALLS * room.elements < ROOM_ELEMENTS);
    }

    private void enter(Object object) throws IllegalAccessException {
        if (object == null || seen.put(object, object) != null) {
            return;
        }
        if (object.getClass().isArray()) {
            elements += Array.getLength(object);
            for (int k = 0; k < Array.getLength(object) && !object.getClass().getComponentType().isPrimitive(); k++) {
                enter(Array.get(object, k));
            }
            return;
        }
        for (Field field : object.getClass().getDeclaredFields()) {
            if (!Modifier.isStatic(field.getModifiers())) {
                elements++;
                field.setAccessible(true);
                if (!field.getType().isPrimitive()) {
                    enter(field.get(object));
                }
            }
        }
    }

    /** Twelve bits and sixty instructions, with as many paths as may be known. */
    private static SymbolBench busyBench() {
        SymbolBench bench = Op.bench(12, Op.i(Op.INPUT, 0, 0), Op.i(Op.CONST, 1, 1));
        for (int place = 2; place < 40; place += 2) {
            Op.tell(bench, Op.i(Op.IF, 0, place + 1), Op.i(Op.SUB, 0, 0, 1));
        }
        for (int place = 40; place < 60; place++) {
            bench.tell(Op.ADD, 2, 2, 0);
        }
        bench.explore();
        return bench;
    }

    private static void callsMakeNothing() {
        ThreadMXBean threads = (ThreadMXBean) ManagementFactory.getThreadMXBean();
        SymbolBench bench = busyBench();
        useAll(bench, 1);
        long before = threads.getCurrentThreadAllocatedBytes();
        long answers = useAll(bench, CALLS);
        long made = threads.getCurrentThreadAllocatedBytes() - before;
        System.out.println(CALLS + " rounds made " + made + " bytes (answers add up to " + answers + ")");
        CHECK.isTrue("calls make nothing", made < SLACK_BYTES);
    }

    private static long useAll(SymbolBench bench, int rounds) {
        long sum = 0;
        for (int k = 0; k < rounds; k++) {
            sum += bench.clear() + bench.input(6, true) + bench.tell(Op.INPUT, 0, 0, 0) + bench.tell(Op.IF, 0, 2, 0);
            sum += bench.tell(Op.UDIV, 1, 1, 0) + bench.tell(Op.HALT, 0, 0, 0) + bench.explore();
            sum += bench.path(0, 5) + bench.decision(0, 1) + bench.holds(0, 5) + bench.value(1, 7) + bench.find(0, 2, 9);
            sum += bench.run(k % 64) + bench.ran(5) + bench.register(0) + bench.cell(0) + bench.failure(0, 2);
            sum += bench.covered(2) + bench.count(4);
        }
        return sum;
    }
}
