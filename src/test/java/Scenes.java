import java.lang.reflect.InvocationTargetException;
import java.lang.reflect.Method;
import java.util.ArrayList;
import java.util.List;

/** Objects that were told something, calls by name, and what an object looks like from outside. */
final class Scenes {
    private Scenes() {
    }

    /** One upright line, and cracks on it with these directions and dips. */
    static PoleSets lies(int... directionsAndDips) {
        PoleSets x = new PoleSets();
        x.line(0, 90, 1000);
        return more(x, directionsAndDips);
    }

    static PoleSets more(PoleSets x, int... directionsAndDips) {
        for (int i = 0; i + 1 < directionsAndDips.length; i += 2) {
            x.crack(0, directionsAndDips[i], directionsAndDips[i + 1], 0);
        }
        return x;
    }

    static PoleSets repeat(PoleSets x, int times, int direction, int dip) {
        for (int i = 0; i < times; i++) {
            x.crack(0, direction, dip, 0);
        }
        return x;
    }

    /** Three cracks of each lie: each lie a set, if they lie far enough apart. */
    static PoleSets threes(int... directionsAndDips) {
        PoleSets x = lies();
        for (int i = 0; i + 1 < directionsAndDips.length; i += 2) {
            repeat(x, 3, directionsAndDips[i], directionsAndDips[i + 1]);
        }
        return x;
    }

    /** An object on which every call that is well asked has STATUS 0: 20 cracks, five sets, two strays. */
    static PoleSets rock() {
        PoleSets x = new PoleSets();
        x.line(0, 90, 1000);
        x.line(0, 0, 500);
        x.line(90, 30, 100000);
        for (int line = 0; line < 3; line++) {
            x.crack(line, 20, 35, 100);
            x.crack(line, 20, 35, 400);
        }
        int[][] others = {{10, 60}, {201, 85}, {340, 35}};
        for (int[] lie : others) {
            x.crack(0, lie[0], lie[1], 0);
            x.crack(0, lie[0], lie[1], 400);
            x.crack(0, lie[0], lie[1], 1000);
        }
        x.crack(0, 90, 10, 1);
        x.crack(0, 90, 20, 2);
        x.crack(0, 90, 30, 900);
        x.crack(1, 90, 60, 3);
        x.crack(2, 270, 70, 4);
        return x;
    }

    /** Six lines, sixty cracks, thirty sets of two. */
    static PoleSets full() {
        PoleSets x = new PoleSets();
        for (int i = 0; i < 6; i++) {
            x.line(60 * i, 15 * i, 1000);
        }
        x.link(1, 2);
        for (int i = 0; i < 60; i++) {
            x.crack(i % 6, 12 * (i % 30), 10 + i % 30 * 2, i);
        }
        return x;
    }

    // ---- calls by name

    static long ask(PoleSets x, String name, int... numbers) {
        for (Method m : PoleSets.class.getDeclaredMethods()) {
            if (m.getName().equals(name)) {
                Object[] given = new Object[numbers.length];
                for (int i = 0; i < given.length; i++) {
                    boolean truth = m.getParameterTypes()[i] == boolean.class;
                    given[i] = truth ? (Object) (numbers[i] != 0) : (Object) numbers[i];
                }
                try {
                    return ((Number) m.invoke(x, given)).longValue();
                } catch (IllegalAccessException | InvocationTargetException e) {
                    throw new IllegalStateException(name, e);
                }
            }
        }
        throw new IllegalStateException("no call " + name);
    }

    // ---- what an object looks like

    /**
     * Answers that tell of everything that was told, in fewer than 400 calls; the object is of no more use
     * afterwards, for what was told last can only be asked for by telling something else.
     */
    static String portrait(PoleSets x) {
        List<Long> seen = read(x);
        seen.add((long) x.line(1, 2, 3));
        seen.add((long) x.crack(0, 1, 2, 0));
        seen.add((long) x.link(10, 3));
        seen.add((long) x.cap(1));
        return seen.toString();
    }

    /** The answers of calls that change nothing. */
    static List<Long> read(PoleSets x) {
        List<Long> seen = new ArrayList<>();
        for (int what = 0; what <= 4; what++) {
            seen.add((long) x.many(what));
        }
        for (int line = 0; line < 6; line++) {
            rows(x, seen, "along", line, 6);
        }
        for (int crack = 0; crack < 21; crack++) {
            for (int what : new int[] {0, 1, 2, 3, 7, 9}) {
                seen.add((long) x.of(crack, what));
            }
        }
        for (int set = 0; set < 6; set++) {
            rows(x, seen, "set", set, 11);
            seen.add((long) x.safety(set));
        }
        for (int what = 0; what <= 3; what++) {
            seen.add((long) x.risk(what));
            seen.add((long) x.settled(20, Math.min(what, 2)));
            seen.add((long) x.nextLine(Math.min(what, 2)));
            seen.add((long) x.peak(10, Math.min(what, 2)));
            seen.add((long) x.fabric(what));
            seen.add((long) x.axis(what < 2, what % 2));
            seen.add((long) x.safest(what % 2));
            seen.add((long) x.bridges(what % 2));
            seen.add((long) x.unfold(0, 1, 30, what % 2));
            seen.add((long) x.wedge(0, 1, what));
            seen.add((long) x.spacing(0, 0, Math.min(what, 2)));
        }
        seen.add((long) x.steepest());
        seen.add((long) x.digest());
        seen.add((long) x.would(30));
        seen.add((long) x.linkFor(2));
        seen.add((long) x.thick(20, 35, 30));
        seen.add((long) x.excess(20, 35, 30));
        seen.add((long) x.blind(20, 35, 30));
        seen.add((long) x.meets(0, 0, 10, 20, 3000));
        seen.add(x.block(0, 1, 2, 10, 20, 30));
        return seen;
    }

    private static void rows(PoleSets x, List<Long> seen, String name, int of, int last) {
        for (int what = 0; what <= last; what++) {
            seen.add(ask(x, name, of, what));
        }
    }
}
