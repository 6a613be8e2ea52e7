import java.lang.reflect.Method;
import java.lang.reflect.Modifier;
import java.util.ArrayList;
import java.util.Arrays;
import java.util.Comparator;
import java.util.List;
import java.util.Random;

/** Runs of calls drawn with fixed seeds, on PoleSets and on the Oracle: every answer and STATUS alike. */
public final class AgainstOracleTest {
    private static final int RUNS = 60;
    private static final int CALLS = 160;
    private static int wrong = 0;

    public static void main(String[] args) throws Exception {
        int runs = Integer.getInteger("runs", RUNS);
        long first = Long.getLong("seed", 1L);
        for (int run = 0; run < runs && wrong < 20; run++) {
            new Run(first + run).play();
        }
        System.out.println(wrong == 0 ? runs + " runs as the oracle" : wrong + " answers differ");
        if (wrong != 0) {
            System.exit(1);
        }
    }

    private static final class Run {
        final Random random;
        final PoleSets tried = new PoleSets();
        final Oracle oracle = new Oracle();
        final List<String> told = new ArrayList<>();
        final Method[] faces;
        final int[][] centres;
        final int spread;
        final int mostCracks;
        int lines = 0;

        Run(long seed) {
            random = new Random(seed);
            faces = Arrays.stream(PoleSets.class.getDeclaredMethods())
                .filter(m -> Modifier.isPublic(m.getModifiers()))
                .sorted(Comparator.comparing(Method::getName))
                .toArray(Method[]::new);
            centres = new int[1 + random.nextInt(6)][];
            for (int i = 0; i < centres.length; i++) {
                int dip = random.nextInt(5) == 0 ? random.nextInt(2) * 90 : random.nextInt(91);
                centres[i] = new int[] {random.nextInt(360), dip};
            }
            spread = 1 + random.nextInt(14);
            mostCracks = random.nextInt(6) == 0 ? 60 : 4 + random.nextInt(22);
        }

        void play() throws Exception {
            for (int k = 0; k < 1 + random.nextInt(3); k++) {
                call("line", random.nextInt(360), random.nextInt(91), 1 + random.nextInt(300));
            }
            if (random.nextBoolean()) {
                call("cap", 1 + random.nextInt(20));
            }
            if (random.nextInt(3) > 0) {
                call("link", 1 + random.nextInt(random.nextBoolean() ? 45 : 15), 2 + random.nextInt(4));
            }
            if (random.nextInt(20) == 0) {
                tellCouples();
            }
            for (int k = 0; k < mostCracks; k++) {
                tellCrack();
            }
            for (int k = 0; k < CALLS && wrong < 20; k++) {
                Method m = faces[random.nextInt(faces.length)];
                if (m.getName().equals("crack")) {
                    tellCrack();
                } else if (!isDear(m) || random.nextInt(5) == 0) {
                    call(m.getName(), draw(m));
                }
            }
        }

        private boolean isDear(Method m) {
            return List.of("axis", "bridges", "hangs", "linkFor", "nextLine", "peak").contains(m.getName());
        }

        /** As many sets as there can be, or nearly. */
        private void tellCouples() throws Exception {
            call("link", 1, 2);
            for (int k = 0; k < 30; k++) {
                int direction = random.nextInt(36) * 10;
                int dip = random.nextInt(10) * 10;
                call("crack", 0, direction, dip, 0);
                call("crack", 0, direction, dip, 1);
            }
        }

        private void tellCrack() throws Exception {
            int[] c = centres[random.nextInt(centres.length)];
            int direction = Math.floorMod(c[0] + random.nextInt(2 * spread + 1) - spread, 360);
            int dip = c[1] + random.nextInt(2 * spread + 1) - spread;
            if (dip > 90) {
                direction = (direction + 180) % 360;
                dip = 180 - dip;
            }
            if (random.nextInt(8) == 0) {
                direction = random.nextInt(360);
                dip = random.nextInt(91);
            }
            call("crack", random.nextInt(Math.max(1, lines)), direction, Math.abs(dip), random.nextInt(200));
        }

        private Object[] draw(Method m) {
            Object[] out = new Object[m.getParameterCount()];
            int[] tops = tops(m.getName());
            for (int i = 0; i < out.length; i++) {
                if (m.getParameterTypes()[i] == boolean.class) {
                    out[i] = random.nextBoolean();
                } else {
                    out[i] = number(tops[i]);
                }
            }
            if (m.getName().equals("fold") && random.nextInt(10) > 0) {
                out[3] = random.nextInt(361) - 180;
            }
            return out;
        }

        /** Mostly from 0 to the top, now and then beside it. */
        private int number(int top) {
            switch (random.nextInt(40)) {
                case 0:
                    return -1;
                case 1:
                    return top + 1;
                case 2:
                    return top;
                case 3:
                    return 0;
                case 4:
                    return random.nextBoolean() ? Integer.MAX_VALUE : Integer.MIN_VALUE;
                default:
                    return random.nextInt(top + 1);
            }
        }

        private int[] tops(String name) {
            int crack = Math.max(0, oracle.many(1) - 1);
            int set = Math.max(0, oracle.many(3) - 1);
            int line = Math.max(0, lines - 1);
            tried.many(3);
            switch (name) {
                case "status": case "digest": case "steepest": return new int[0];
                case "line": return new int[] {359, 90, 300};
                case "drop": case "without": return new int[] {crack};
                case "link": return new int[] {45, 6};
                case "cap": return new int[] {20};
                case "slope": return new int[] {359, 90, 40, 45};
                case "many": return new int[] {4};
                case "of": return new int[] {crack, 9};
                case "along": return new int[] {line, 6};
                case "angle": case "hangs": return new int[] {crack, crack};
                case "near": return new int[] {crack, 90};
                case "set": return new int[] {set, 11};
                case "member": return new int[] {set, 8};
                case "stray": return new int[] {8};
                case "apart": return new int[] {set, set};
                case "overlap": return new int[] {set, set, 1};
                case "bridges": case "safest": return new int[] {1};
                case "nearestSet": return new int[] {crack, 1};
                case "would": return new int[] {45};
                case "linkFor": return new int[] {4};
                case "settled": return new int[] {90, 2};
                case "settledIn": return new int[] {90, crack};
                case "settledLie": return new int[] {90, set};
                case "thick": case "excess": case "blind": return new int[] {359, 90, 90};
                case "rose": return new int[] {17, 1};
                case "fabric": return new int[] {5};
                case "axis": return new int[] {1, 1};
                case "nextLine": return new int[] {2};
                case "peak": return new int[] {90, 2};
                case "spacing": return new int[] {set, line, 2};
                case "meets": return new int[] {set, line, 359, 90, 100000};
                case "block": return new int[] {set, set, set, 100000, 100000, 100000};
                case "wedge": return new int[] {set, set, 4};
                case "risk": return new int[] {3};
                case "safety": return new int[] {set};
                case "fold": return new int[] {set, set, 359, 180};
                case "unfold": return new int[] {set, set, 359, 1};
                default: throw new IllegalStateException(name);
            }
        }

        private void call(String name, Object... args) throws Exception {
            Class<?>[] types = new Class<?>[args.length];
            for (int i = 0; i < args.length; i++) {
                types[i] = args[i] instanceof Boolean ? boolean.class : int.class;
            }
            Number got = (Number) PoleSets.class.getMethod(name, types).invoke(tried, args);
            Number want = (Number) Oracle.class.getMethod(name, types).invoke(oracle, args);
            told.add(name + Arrays.toString(args));
            if (name.equals("line") && want.intValue() >= 0) {
                lines++;
            }
            if (got.longValue() != want.longValue() || tried.status() != oracle.status()) {
                wrong++;
                System.out.println(told);
                System.out.println("  answered " + got + " (" + tried.status() + "), the oracle "
                    + want + " (" + oracle.status() + ")");
            }
        }
    }
}
