import java.lang.reflect.Method;
import java.lang.reflect.Modifier;
import java.util.ArrayList;
import java.util.Comparator;
import java.util.List;
import java.util.Random;

/**
 * No call throws, whatever its arguments; what is refused changes nothing; questions change nothing;
 * and no call makes objects.
 */
public final class AnyArgumentsTest {
    private static final int[] EDGES = {Integer.MIN_VALUE, Integer.MIN_VALUE + 1, -101, -100, -14, -2, -1, 0, 1, 2, 3, 4, 5, 6, 7, 8, 9, 10, 11, 12, 13, 20, 24, 25,
        31, 40, 50, 59, 60, 61, 99, 100, 101, 119, 120, 125, 255, 256, 999, 1000, 1111, 1200, Integer.MAX_VALUE - 1, Integer.MAX_VALUE};
    private static final List<String> DEEDS = List.of("bar", "bars", "mend", "feed", "law", "play", "night", "thursday", "image", "back", "undo", "redo",
        "body", "act", "keep", "row", "put", "shift");
    private static int wrong = 0;
    private static long kept = 0;

    private static void fail(String what) {
        wrong++;
        System.out.println("any arguments: " + what);
    }

    public static void main(String[] args) throws Exception {
        List<Method> calls = new ArrayList<>();
        for (Method m : PractisedWrong.class.getDeclaredMethods()) {
            if (Modifier.isPublic(m.getModifiers())) {
                calls.add(m);
            }
        }
        calls.sort(Comparator.comparing(Method::getName));
        for (int seed = 0; seed < 400 && wrong < 10; seed++) {
            run(calls, new Random(seed), seed);
        }
        rooms();
        System.out.println(wrong == 0 ? "any arguments: nothing is thrown, nothing refused changes" : "any arguments: " + wrong + " faults");
        if (wrong != 0) {
            System.exit(1);
        }
    }

    private static int drawn(Random random) {
        int pick = random.nextInt(10);
        if (pick < 6) {
            return random.nextInt(8);
        }
        if (pick < 7) {
            return random.nextInt(130);
        }
        return pick < 9 ? EDGES[random.nextInt(EDGES.length)] : random.nextInt();
    }

    private static void run(List<Method> calls, Random random, int seed) throws Exception {
        PractisedWrong x = new PractisedWrong();
        PractisedWrong twin = new PractisedWrong();
        for (int i = random.nextInt(12); i > 0; i--) {
            int r = random.nextInt(1000), w = random.nextInt(1000);
            x.bar(r, w);
            twin.bar(r, w);
        }
        for (int i = 0; i < 480; i++) {
            Method m = calls.get(random.nextInt(calls.size()));
            Object[] with = new Object[m.getParameterCount()];
            for (int k = 0; k < with.length; k++) {
                int v = drawn(random);
                with[k] = m.getParameterTypes()[k] == long.class ? (Object) (long) v : (Object) v;
            }
            long answer;
            try {
                answer = ((Number) m.invoke(x, with)).longValue();
            } catch (java.lang.reflect.InvocationTargetException e) {
                fail("run " + seed + ": " + m.getName() + java.util.Arrays.toString(with) + " threw " + e.getCause());
                return;
            }
            boolean isDeed = DEEDS.contains(m.getName());
            boolean isRefused = (answer == -1 || answer == -3 || answer == -5 || answer <= -11 && answer >= -14) && !m.getName().equals("act");
            if (isDeed && !isRefused) {
                m.invoke(twin, with);
            }
        }
        if (!state(x).equals(state(twin))) {
            fail("run " + seed + ": the twin that was asked and refused nothing differs");
        }
    }

    /** All that can be asked without a change, as a text. */
    private static String state(PractisedWrong x) {
        StringBuilder b = new StringBuilder();
        for (int n = 0; n < 12; n++) {
            for (int what = 0; what < 12; what++) {
                b.append(x.of(n, what)).append(' ');
            }
            b.append(x.playing(n, 0, 1)).append(' ').append(x.playing(n, 1, 1)).append('\n');
        }
        for (int what = 0; what < 5; what++) {
            b.append(x.count(what)).append(' ').append(x.led(what)).append(' ');
        }
        for (int i = 0; i < 25; i++) {
            b.append(x.trace(i)).append(' ');
        }
        for (int shelf = 0; shelf < 6; shelf++) {
            b.append('\n').append(x.taken(shelf, 0)).append(' ').append(x.put(shelf, -1, 0)).append(": ");
            for (int i = 0; i < 60; i++) {
                b.append(x.element(shelf, i)).append(' ');
            }
        }
        // these change, so they come last
        b.append('\n').append(x.redo()).append(' ').append(x.undo()).append(' ').append(x.back()).append(' ').append(x.all());
        return b.append(' ').append(x.law()).toString();
    }

    /** A run's room is small: the dearest calls must make nothing. */
    private static void rooms() {
        com.sun.management.ThreadMXBean threads = (com.sun.management.ThreadMXBean) java.lang.management.ManagementFactory.getThreadMXBean();
        long self = Thread.currentThread().getId();
        PractisedWrong x = new PractisedWrong();
        for (int i = 0; i < 12; i++) {
            x.bar(40 + i, 50);
        }
        dear(x, 1);
        long before = threads.getThreadAllocatedBytes(self);
        dear(x, 20);
        long made = threads.getThreadAllocatedBytes(self) - before;
        // the measure itself may make a little
        if (made > 4096) {
            fail("the dearest calls made " + made + " bytes");
        }
        before = threads.getThreadAllocatedBytes(self);
        for (int i = 0; i < 100; i++) {
            kept += new PractisedWrong().count(0);
        }
        made = threads.getThreadAllocatedBytes(self) - before;
        if (made / 100 > 16384) {
            fail("an object takes " + made / 100 + " bytes");
        }
    }

    private static void dear(PractisedWrong x, int times) {
        for (int i = 0; i < times; i++) {
            x.row(0, 0, 60);
            for (int k = 0; k < 60; k++) {
                x.put(0, k, k % 2 == 0 ? 20 + k % 12 : 7);
            }
            x.feed('1');
            kept += x.law() + x.wrongFor(0, 0, 0) + x.spread(0, 125, 3) + x.with(60, 1) + x.whole(0) + x.judge(0) + x.hearing(1, 30, 0) + x.stop(0) + x.times(0, 0);
            kept += x.body(7) + x.act(0, 3, 9) + x.undo() + x.mend(0, 0, i) + x.image() + x.back() + x.night() + x.shift(0, 0, 0, 3, 5) + x.drawn(3, 30, 1);
        }
    }
}
