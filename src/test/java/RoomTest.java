import java.lang.reflect.Array;
import java.lang.reflect.Field;
import java.lang.reflect.Modifier;
import java.util.IdentityHashMap;
import java.util.Map;

/**
 * The room of one run: what an object holds, and that its calls make nothing. All calls of a run
 * share some 600,000 objects and 7.3 million fields and elements.
 */
public final class RoomTest {

    /** So small that a run of 512 new objects still has room. */
    private static final int MOST_OBJECTS = 1000;
    private static final int MOST_CELLS = 14000;

    public static void main(String[] args) throws Exception {
        held();
        made();
        Check.finish("RoomTest");
    }

    private static void held() throws Exception {
        Gimlet gimlet = Check.full();
        int[] count = new int[2];
        walk(gimlet, new IdentityHashMap<>(), count);
        System.out.println("an object holds " + count[0] + " objects and " + count[1] + " fields and elements");
        Check.holds("objects", count[0] > 5 && count[0] < MOST_OBJECTS);
        Check.holds("fields and elements", count[1] > 100 && count[1] < MOST_CELLS);
    }

    private static void walk(Object object, Map<Object, Object> seen, int[] count) throws Exception {
        if (object == null || seen.put(object, object) != null) {
            return;
        }
        count[0]++;
        Class<?> type = object.getClass();
        if (type.isArray()) {
            count[1] += Array.getLength(object);
            for (int index = 0; !type.getComponentType().isPrimitive() && index < Array.getLength(object); index++) {
                walk(Array.get(object, index), seen, count);
            }
            return;
        }
        for (Field field : type.getDeclaredFields()) {
            if (!Modifier.isStatic(field.getModifiers())) {
                count[1]++;
                field.setAccessible(true);
                if (!field.getType().isPrimitive()) {
                    walk(field.get(object), seen, count);
                }
            }
        }
    }

    /** Counts the bytes that answering calls take from the heap: none. */
    private static void made() {
        com.sun.management.ThreadMXBean bean =
                (com.sun.management.ThreadMXBean) java.lang.management.ManagementFactory.getThreadMXBean();
        Gimlet gimlet = new Gimlet();
        int term = Check.make(gimlet, "CSSabDcUd0");
        calls(gimlet, term);
        long thread = Thread.currentThread().getId();
        bean.getThreadAllocatedBytes(thread);
        long before = bean.getThreadAllocatedBytes(thread);
        long sum = 0;
        for (int round = 0; round < 8; round++) {
            sum += calls(gimlet, term);
        }
        long bytes = bean.getThreadAllocatedBytes(thread) - before;
        Check.holds("the calls answer something", sum > 0);
        System.out.println("8 times all calls took " + bytes + " bytes");
        Check.holds("8 times all calls take no more than a few bytes of the machine's own", bytes < 2000);
    }

    /** Each call of the face once or more, none of which throws. */
    private static long calls(Gimlet gimlet, int term) {
        long sum = gimlet.letter(0) + gimlet.letter(1) + gimlet.empty() + gimlet.universe();
        sum += gimlet.complement(0) + gimlet.union(0, 1) + gimlet.intersection(0, 1);
        sum += gimlet.difference(0, 1) + gimlet.symmetric(0, 1) + gimlet.terms() + gimlet.size(term);
        sum += gimlet.symbol(term, 3) + gimlet.regions(term) + gimlet.rule(term) + gimlet.step(term);
        sum += gimlet.steps(term) + gimlet.normalForm(term) + gimlet.primes(term) + gimlet.primesByTrying(term);
        sum += gimlet.prime(term, 0, 1) + (long) (gimlet.density(term) * 16f);
        sum += gimlet.covers(term, 5) ? 1 : 0;
        sum += gimlet.coversByTerm(term, 5) ? 1 : 0;
        sum += gimlet.isEqual(0, 1) ? 1 : 0;
        sum += gimlet.assume('s', 0, 1) + gimlet.assume('i', 0, 0) + gimlet.assumptions() + gimlet.deniedBy(1);
        sum += gimlet.setGoal('i', 1, 1) ? 1 : 0;
        sum += gimlet.follows() ? 1 : 0;
        sum += gimlet.isConsistent() ? 1 : 0;
        sum += gimlet.why() + gimlet.witness();
        sum += gimlet.setGoal('s', 1, 0) ? 1 : 0;
        sum += gimlet.elements() + gimlet.elementsByTrying() + gimlet.region(0);
        sum += gimlet.models(6) + gimlet.modelsByTrying(3);
        return sum + gimlet.drop() + gimlet.drop();
    }
}
