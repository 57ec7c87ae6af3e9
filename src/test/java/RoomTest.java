import java.lang.management.ManagementFactory;
import java.lang.reflect.Array;
import java.lang.reflect.Field;
import java.lang.reflect.Modifier;
import java.util.ArrayDeque;
import java.util.Collections;
import java.util.Deque;
import java.util.IdentityHashMap;
import java.util.Set;

/** The room: what a new object takes, and that no call makes anything more. */
public final class RoomTest {
    private static long objects = 0;
    private static long places = 0;

    public static void main(String[] args) throws Exception {
        countAll(new EveryMeasure());
        System.out.println("a new object: " + objects + " objects and arrays, " + places + " fields and elements");
        // A hundred objects would take a small part of the room (600,000 and 7.3 million).
        Due.is("few objects", true, objects < 400);
        Due.is("few places", true, places < 10000);
        noCallMakesAnything();
        Due.end();
    }

    private static void countAll(Object root) throws Exception {
        Set<Object> seen = Collections.newSetFromMap(new IdentityHashMap<>());
        Deque<Object> open = new ArrayDeque<>();
        open.add(root);
        while (!open.isEmpty()) {
            Object at = open.poll();
            if (!seen.add(at)) continue;
            objects++;
            if (at.getClass().isArray()) {
                int length = Array.getLength(at);
                places += length;
                for (int i = 0; i < length && !at.getClass().getComponentType().isPrimitive(); i++) open.add(Array.get(at, i));
                continue;
            }
            for (Field field : at.getClass().getDeclaredFields()) {
                if (Modifier.isStatic(field.getModifiers())) continue;
                places++;
                field.setAccessible(true);
                if (!field.getType().isPrimitive()) open.add(field.get(at));
            }
        }
    }

    private static long made() {
        return ((com.sun.management.ThreadMXBean) ManagementFactory.getThreadMXBean()).getThreadAllocatedBytes(Thread.currentThread().getId());
    }

    private static void noCallMakesAnything() {
        EveryMeasure x = Due.with(4, new int[][] {
            {100, 0, 10, 20}, {0, 100, 20, 10}, {10, 20, 100, 0}, {20, 10, 0, 100}, {30, 31, 32, 33}, {70, 3, 50, 2}, {9, 8, 80, 60}},
            "a more 0 1; b twice 1 2; c step 90 3 1 0; d least 2 3; e most 0 60; f better 0 1; g better 2 3; h better 5 6; a more 1 3;");
        long sum = askAll(x);
        made();
        long before = made();
        for (int i = 0; i < 20; i++) sum += askAll(x);
        long bytes = made() - before;
        System.out.println("20 rounds of calls made " + bytes + " bytes");
        Due.is("calls make nothing (but what the counting makes)", true, bytes < 2000);
        Due.is("answers differ", true, sum != 0);
    }

    private static long askAll(EveryMeasure x) {
        long sum = x.thing(7, 40, 40, 40, 40) ? 1 : 0;
        sum += x.drop(7) ? 1 : 0;
        sum += x.feed(0x61206d6f72652030L, 0x20313b2062206d6fL, 0x72652031203020L);
        sum += x.choice();
        for (int voices = 0; voices < 256; voices += 51) {
            x.voices(voices);
            for (int a = 0; a < 8; a++) {
                sum += x.standing(a) + x.beaten(a) + x.regret(a, 0) + x.need(a, a & 3, true) + x.need(a, a & 3, false) + x.share(a, 20);
                sum += x.good(a, 1, 2, 3, 4, 0) + x.better(a, 0) + x.why(a, 2, 1) + x.holds(a, a, 1) + x.edge(a, 1, 0) + x.corner(a, 1);
                sum += a < 6 ? x.value(a, 1) + x.gap(a, 6, 0) : 0;
                sum += x.count(a) + (x.row(a) ? 1 : 0) + x.judged(0);
            }
            sum += x.fits(1, 2, 3, 4) + x.small(1) + x.best(0) + x.best(1) + x.least() + x.next(2) + x.few() + x.agree(1) + x.yields(1);
            sum += x.judged(1) + x.worst() + x.first(321) + x.many(40) + (x.row(-1) ? 1 : 0);
        }
        return sum;
    }
}
