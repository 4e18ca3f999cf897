import java.lang.management.ManagementFactory;
import java.lang.reflect.Array;
import java.lang.reflect.Field;
import java.lang.reflect.Modifier;
import java.util.IdentityHashMap;
import java.util.Map;
import java.util.Random;

/**
 * All calls of a run live in one room: an object is small, it never grows, and calls that throw no
 * exception make nothing.
 */
public final class SizeTest {
    private static final int MOST_OBJECTS = 300;
    private static final int MOST_ELEMENTS = 3000;
    private static final int RUNS = 40;
    private static final int CALLS = 240;

    private final Map<Object, Boolean> objects = new IdentityHashMap<>();
    private int elements;

    public static void main(String[] args) throws ReflectiveOperationException {
        sizeOfANewObject();
        sizeAfterManyCalls();
        callsMakeNothing();
        Due.end();
    }

    private static void sizeOfANewObject() throws ReflectiveOperationException {
        Due.on("size of a new object");
        SizeTest size = new SizeTest();
        size.count(new TwinRooms());
        Due.yes("objects: " + size.objects.size(), size.objects.size() <= MOST_OBJECTS);
        Due.yes("elements: " + size.elements, size.elements <= MOST_ELEMENTS);
    }

    private static void sizeAfterManyCalls() throws ReflectiveOperationException {
        Due.on("size after many calls");
        SizeTest before = new SizeTest();
        before.count(new TwinRooms());
        for (int run = 0; run < RUNS; run++) {
            TwinRooms x = Scenes.busy();
            work(x, new Random(run));
            SizeTest after = new SizeTest();
            after.count(x);
            Due.is("objects", before.objects.size(), after.objects.size());
            Due.is("elements", before.elements, after.elements);
        }
    }

    private static void callsMakeNothing() {
        Due.on("calls make nothing");
        if (!(ManagementFactory.getThreadMXBean() instanceof com.sun.management.ThreadMXBean)) {
            return;
        }
        com.sun.management.ThreadMXBean threads =
                (com.sun.management.ThreadMXBean) ManagementFactory.getThreadMXBean();
        if (!threads.isThreadAllocatedMemorySupported() || !threads.isThreadAllocatedMemoryEnabled()) {
            return;
        }
        long made = 0;
        long fresh = 0;
        long busy = 0;
        for (int run = 0; run < RUNS; run++) {
            Random random = new Random(run);
            long start = threads.getCurrentThreadAllocatedBytes();
            TwinRooms y = new TwinRooms();
            long afterFresh = threads.getCurrentThreadAllocatedBytes();
            TwinRooms x = Scenes.busy();
            long afterBusy = threads.getCurrentThreadAllocatedBytes();
            work(x, random);
            made += threads.getCurrentThreadAllocatedBytes() - afterBusy;
            busy += afterBusy - afterFresh;
            fresh += afterFresh - start;
            Due.is("letters", 0, y.letters());
        }
        // Measuring may make something itself; an object a call would be 16 bytes a call at least.
        Due.yes("bytes made by " + RUNS * CALLS + " calls: " + made, made < 4L * RUNS * CALLS);
        Due.yes("a busy object is a new one: " + busy + ", " + fresh, busy - fresh < 4L * RUNS * CALLS);
    }

    /** Some 240 calls, none of them refused by an exception. */
    private static void work(TwinRooms x, Random random) {
        for (int call = 0; call < CALLS / 2; call++) {
            int a = random.nextInt(6);
            int waiting = x.letters();
            switch (random.nextInt(12)) {
                case 0: x.status(a, random.nextInt(4)); break;
                case 1: x.unit(a, a, 2); break;
                case 2: x.twin(random.nextInt(waiting + 1)); break;
                case 3: x.road(a, random.nextInt(6), random.nextInt(99)); break;
                case 4: x.nearest(a & 1, 0, a, 0); break;
                case 5: x.questions(a); break;
                case 6: x.crash(a); break;
                case 7: x.mount(a & 1); break;
                case 8: x.eta(a, 3); break;
                default: x.deliver(random.nextInt(waiting + 1)); break;
            }
        }
    }

    /** Counts the object, and all that it holds, once. */
    private void count(Object object) throws ReflectiveOperationException {
        if (object == null || objects.put(object, true) != null) {
            return;
        }
        Class<?> kind = object.getClass();
        if (kind.isArray()) {
            elements += Array.getLength(object);
            for (int k = 0; k < Array.getLength(object) && !kind.getComponentType().isPrimitive(); k++) {
                count(Array.get(object, k));
            }
            return;
        }
        for (Field field : kind.getDeclaredFields()) {
            if (!Modifier.isStatic(field.getModifiers())) {
                elements++;
                field.setAccessible(true);
                if (!field.getType().isPrimitive()) {
                    count(field.get(object));
                }
            }
        }
    }
}
