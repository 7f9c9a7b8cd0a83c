import java.lang.management.ManagementFactory;
import java.lang.reflect.Array;
import java.lang.reflect.Field;
import java.lang.reflect.Modifier;
import java.util.ArrayDeque;
import java.util.Collections;
import java.util.IdentityHashMap;
import java.util.Set;

/**
 * All calls of one run live in one room: what an object takes from the start, and that no call, of the
 * dearest ones too, takes any more.
 */
public final class RoomTest {
    /** Far below the room of a run, so that it holds many objects. */
    private static final int MOST_OBJECTS = 60;
    private static final int MOST_PARTS = 8000;
    /** No object or array takes fewer bytes. */
    private static final long LEAST_BYTES = 16;

    public static void main(String[] args) throws Exception {
        WhoBowsLast x = new WhoBowsLast();
        long[] before = room(x);
        Check.due("objects of a new one: " + before[0], before[0] <= MOST_OBJECTS ? 1 : 0, 1);
        Check.due("fields and elements of a new one: " + before[1], before[1] <= MOST_PARTS ? 1 : 0, 1);
        everyCall(x, 9);
        long[] after = room(x);
        Check.due("objects behind all calls", after[0], before[0]);
        Check.due("fields and elements behind all calls", after[1], before[1]);
        taken();
        Check.end();
    }

    /** How many objects and arrays hang on one, and how many fields and elements these have. */
    private static long[] room(Object root) throws Exception {
        Set<Object> seen = Collections.newSetFromMap(new IdentityHashMap<>());
        ArrayDeque<Object> open = new ArrayDeque<>();
        seen.add(root);
        open.add(root);
        long parts = 0;
        while (!open.isEmpty()) {
            Object o = open.remove();
            if (o.getClass().isArray()) {
                parts += Array.getLength(o);
                Check.dueText("the sort of an array", o.getClass().getComponentType().isPrimitive() ? "numbers" : "others", "numbers");
                continue;
            }
            for (Field f : o.getClass().getDeclaredFields()) {
                if (Modifier.isStatic(f.getModifiers())) {
                    continue;
                }
                parts++;
                f.setAccessible(true);
                Object held = f.getType().isPrimitive() ? null : f.get(o);
                if (held != null && seen.add(held)) {
                    open.add(held);
                }
            }
        }
        return new long[] {seen.size(), parts};
    }

    /** Each call once or more, in a state in which it does the most; refused ones, too. */
    private static long everyCall(WhoBowsLast x, int bows) {
        long all = 0;
        for (int b = 0; b < bows; b++) {
            all += x.bow(b % 7) + x.change(b, 1, 11 * b) + x.change(b, 2, 1 + b) + x.hold(b, b) + x.as(b, 0);
        }
        all += x.contract(0, 1, 1) + x.contract(0, 2, 1) + x.rule(4, 30) + x.noise(3, 500) + x.bow(0);
        all += x.best(0) + x.best(1) + x.ith(0, 8) + x.ith(1, 8) + x.ways() + x.lasts() + x.place(3, 0) + x.place(3, 1);
        all += x.all(1) + x.clash() + x.broken() + x.between(0, 1) + x.kindFor(4) + x.freed() + x.free() + x.train();
        all += x.fits(3, 50, 0) + x.love(3, 50, 0) + x.curtain(0, 0) + x.curtain(0, 1) + x.stop();
        all += x.evening(8) + x.image() + x.lot() + x.back() + x.stood(3) + x.now(4) + x.now(5) + x.of(3, 6) + x.clear();
        all += x.come(0) + x.undo() + x.seed(5) + x.tear() + x.undo();
        all += text(x, 0x6761696e, 0x2039393b, 0x6c6f7373, 0x20313b20) + text(x, 0x6c617374, 0x2020206c, 0x6f766520, 0x31303020);
        all += x.feed(0x626f773b, 4) + x.feed(0, 5) + x.wipe();
        all += x.sheet(0, 8, 40) + x.sheet(1, 8, 40) + x.write(0, 0, 300) + x.copy(0, 0, 1, 0, 40) + x.copy(0, 0, 0, 1, 39);
        all += x.judge(0) + x.loud(0) + x.load(0) + x.sheet(3, 32, -1);
        all += x.count(2) + x.count(4) + x.count(7) + x.status(-1) + x.status(7);
        return all;
    }

    private static long text(WhoBowsLast x, int a, int b, int c, int d) {
        return x.feed(a, 4) + x.feed(b, 4) + x.feed(c, 4) + x.feed(d, 4) + x.text();
    }

    /** What the machine says that this thread took, over runs on objects made ahead of them. */
    private static void taken() {
        if (!(ManagementFactory.getThreadMXBean() instanceof com.sun.management.ThreadMXBean told)
            || !told.isThreadAllocatedMemorySupported()) {
            System.out.println("this machine does not tell what a thread takes");
            return;
        }
        told.setThreadAllocatedMemoryEnabled(true);
        long least = Long.MAX_VALUE;
        long answers = 0;
        // The first runs load what the machine itself needs: the least one tells what the calls take.
        for (int run = 0; run < 20; run++) {
            WhoBowsLast x = new WhoBowsLast();
            long before = told.getThreadAllocatedBytes(Thread.currentThread().getId());
            answers += everyCall(x, 9);
            long after = told.getThreadAllocatedBytes(Thread.currentThread().getId());
            least = Math.min(least, after - before);
        }
        Check.due("bytes that all calls took (" + answers + "): " + least, least < LEAST_BYTES ? 1 : 0, 1);
    }
}
