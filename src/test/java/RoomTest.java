import com.sun.management.ThreadMXBean;
import java.lang.management.ManagementFactory;
import java.lang.reflect.Array;
import java.lang.reflect.Field;
import java.lang.reflect.Modifier;
import java.util.IdentityHashMap;
import java.util.Map;
import java.util.NoSuchElementException;
import java.util.Random;

/** How much room an object takes, and that its calls make none more; and that calls of any arguments end and don't throw. */
public final class RoomTest {
    // All calls of a run share some 600,000 objects and 7.3 million elements: 512 calls, and the dearest makes an object.
    private static final long OBJECTS_MOST = 1000;
    private static final long ELEMENTS_MOST = 14000;
    private static final int UNDO_STATES = 10;
    private static final String TEXT =
        "swap frames 9 step 2 big 12;data 1,2,3,4,5,9 x 11;data 1 x 8,2 x 8;store 1 0;load 1;drop 1";
    private static final int[] FAR = {Integer.MIN_VALUE, Integer.MIN_VALUE + 1, -1000000007, -17, -2, -1, 0, 1, 2, 3, 4,
        5, 9, 10, 15, 16, 17, 23, 24, 25, 29, 30, 31, 900, 901, 1 << 27, 1 << 28, Integer.MAX_VALUE - 1,
        Integer.MAX_VALUE};

    private static long objects;
    private static long elements;

    private RoomTest() {
    }

    public static void main(String[] args) {
        boolean good = roomOfOne() & callsMakeNothing(usedUp()) & farArguments();
        System.out.println(good ? "there is room enough" : "there is too little room, or a call throws");
        if (!good) {
            System.exit(1);
        }
    }

    private static boolean roomOfOne() {
        SqueezedSwap x = new SqueezedSwap();
        count(x, new IdentityHashMap<>());
        System.out.println("a new object takes " + objects + " objects, " + elements + " fields and elements");
        boolean small = objects <= OBJECTS_MOST && elements <= ELEMENTS_MOST;
        long one = elements;
        objects = 0;
        elements = 0;
        count(usedUp(), new IdentityHashMap<>());
        System.out.println("a used one takes " + objects + " objects, " + elements + " fields and elements");
        return small && (elements - one) / UNDO_STATES <= ELEMENTS_MOST;
    }

    /** One of which all has been made that it ever makes. */
    private static SqueezedSwap usedUp() {
        SqueezedSwap x = new SqueezedSwap();
        Driver.tell(x, TEXT);
        exercise(x, new Random(5));
        return x;
    }

    private static void count(Object o, Map<Object, Boolean> seen) {
        if (o == null || o instanceof String || seen.put(o, true) != null) {
            return;
        }
        objects++;
        if (o.getClass().isArray()) {
            elements += Array.getLength(o);
            for (int i = 0; o instanceof Object[] && i < Array.getLength(o); i++) {
                count(Array.get(o, i), seen);
            }
            return;
        }
        for (Field f : o.getClass().getDeclaredFields()) {
            if (!Modifier.isStatic(f.getModifiers())) {
                elements++;
                try {
                    f.setAccessible(true);
                    if (!f.getType().isPrimitive()) {
                        count(f.get(o), seen);
                    }
                } catch (IllegalAccessException e) {
                    throw new IllegalStateException(e);
                }
            }
        }
    }

    private static boolean callsMakeNothing(SqueezedSwap x) {
        ThreadMXBean threads = (ThreadMXBean) ManagementFactory.getThreadMXBean();
        long id = Thread.currentThread().getId();
        int[][] feeds = Driver.feeds(TEXT);
        Random r = new Random(6);
        threads.getThreadAllocatedBytes(id);
        long before = threads.getThreadAllocatedBytes(id);
        for (int i = 0; i < 100; i++) {
            for (int[] f : feeds) {
                x.feed(f[0], f[1], f[2], f[3], f[4]);
            }
            x.swap(TEXT.length());
            exercise(x, r);
        }
        long made = threads.getThreadAllocatedBytes(id) - before;
        System.out.println("some 80000 calls made " + made + " bytes");
        return made < 8000;
    }

    /** All calls but onDisk, with arguments that are mostly good. */
    private static void exercise(SqueezedSwap x, Random r) {
        for (int i = 0; i < 16; i++) {
            int p = r.nextInt(30);
            int d = r.nextInt(2);
            int c = r.nextInt(16);
            x.store(p, d);
            x.store(r.nextInt(30), d);
            x.load(p);
            x.hold(r.nextInt(30));
            x.release(r.nextInt(30));
            x.drop(r.nextInt(30));
            x.poke(d, c, r.nextInt(3));
            x.writeBack(1 + r.nextInt(2));
            x.limit(1 + r.nextInt(24));
            x.compact();
            x.run(0, 1 + r.nextInt(3));
            x.undo();
            x.about(c);
            x.cell(d, c);
            x.squeezed(d);
            x.pieces(d);
            x.piece(d, c & 1, c & 3);
            x.fewest(d);
            x.rest(d, c);
            x.ranked(d);
            x.sort(d);
            x.home(c);
            x.sizes(c, c & 3);
            x.gain();
            x.next(c);
            x.coldest(c);
            x.fittest();
            x.zone(c & 3, c & 1);
            x.slot(c & 3, d);
            x.page(p);
            x.pooled(p, c & 3);
            x.read(p, c);
            x.aged(c & 3);
            x.total(c & 3);
            x.same(p, 1);
            x.waste();
            x.would(1 + c, d == 0);
            x.freeing();
            x.holds(d == 0);
            x.pushes(p, d);
            x.pushed(p, d, 0);
            x.foretold(1 + c, 1 + (c & 3), d);
            x.enough();
            x.op(d, 0);
            x.size(d);
            x.fault();
            x.where();
            x.trouble();
        }
    }

    private static boolean farArguments() {
        boolean good = true;
        for (int stage = 0; stage < 3; stage++) {
            SqueezedSwap x = new SqueezedSwap();
            if (stage > 0) {
                Driver.tell(x, stage == 1 ? "swap frames 24 step 3 big 15" : Texts.good(new Random(9)));
            }
            exercise(x, new Random(stage));
            for (java.lang.reflect.Method m : SqueezedSwap.class.getDeclaredMethods()) {
                if (Modifier.isPublic(m.getModifiers())) {
                    good &= farArgumentsOf(x, m.getName(), m.getParameterCount());
                }
            }
        }
        return good;
    }

    private static boolean farArgumentsOf(SqueezedSwap x, String name, int count) {
        int rounds = (int) Math.pow(FAR.length, Math.min(count, 3));
        for (int i = 0; i < rounds; i++) {
            int[] args = new int[count];
            int rest = i;
            for (int k = 0; k < count; k++) {
                args[k] = FAR[rest % FAR.length];
                rest /= FAR.length;
            }
            try {
                Driver.call(x, name, args);
            } catch (NoSuchElementException | IllegalStateException e) {
                System.out.println(e.getMessage() + ": " + e.getCause());
                return false;
            }
        }
        return true;
    }
}
