import java.util.function.Consumer;

/** For each promise ordinary inputs, the edges that the document names, and wrong inputs; worked out by hand, but for the g of unfold (29), which the Oracle gave. */
public final class PromisesTest {
    private static int wrong = 0;
    private static int promise = 0;
    private static int checks = 0;

    public static void main(String[] args) {
        Runnable[] promises = {
            PromisesTest::newObject, PromisesTest::status, PromisesTest::line, PromisesTest::crack,
            PromisesTest::drop, PromisesTest::link, PromisesTest::cap, PromisesTest::slope,
            PromisesTest::many, PromisesTest::of, PromisesTest::along, PromisesTest::angle,
            PromisesTest::near, PromisesTest::set, PromisesTest::member, PromisesTest::stray,
            PromisesTest::apart, PromisesTest::hangs, PromisesTest::overlap, PromisesTest::digest,
            PromisesTest::without, PromisesTest::bridges, PromisesTest::nearestSet, PromisesTest::would,
            PromisesTest::linkFor, PromisesTest::settled, PromisesTest::settledIn, PromisesTest::settledLie,
            PromisesTest::thick, PromisesTest::excess, PromisesTest::rose, PromisesTest::fabric,
            PromisesTest::axis, PromisesTest::nextLine, PromisesTest::blind, PromisesTest::peak,
            PromisesTest::spacing, PromisesTest::meets, PromisesTest::block, PromisesTest::wedge,
            PromisesTest::risk, PromisesTest::safety, PromisesTest::safest, PromisesTest::steepest,
            PromisesTest::fold, PromisesTest::unfold};
        for (Runnable each : promises) {
            promise++;
            each.run();
        }
        System.out.println(wrong == 0 ? checks + " answers of " + promise + " promises are as due"
            : wrong + " answers are not as due");
        if (wrong != 0 || promise != 46) {
            System.exit(1);
        }
    }

    // ---- how answers are looked at

    private static void due(String call, long got, long want) {
        checks++;
        if (got != want) {
            wrong++;
            System.out.println("promise " + promise + ": " + call + " answered " + got + ", due is " + want);
        }
    }

    /** An answer with STATUS 0, -1 among them. */
    private static void good(PoleSets x, String call, long got, long want) {
        due(call, got, want);
        due("status() after " + call, x.status(), 0);
    }

    /** NONE with a STATUS, and sets, cracks and lines as they were. */
    private static void refused(PoleSets x, String call, long got, int status) {
        due(call, got, PoleSets.NONE);
        due("status() after " + call, x.status(), status);
    }

    // ---- scenes

    private static PoleSets empty() {
        return new PoleSets();
    }

    private static PoleSets with(Consumer<PoleSets> told) {
        PoleSets x = new PoleSets();
        told.accept(x);
        return x;
    }

    /** Dips 40, 50, 45 towards 0 by one upright line: the set that is worked out in full below. */
    private static PoleSets fan() {
        return with(x -> {
            x.line(0, 90, 1000);
            x.crack(0, 0, 40, 100);
            x.crack(0, 0, 50, 300);
            x.crack(0, 0, 45, 900);
        });
    }

    /** Flat ones (set 0), upright ones across x (set 1), across y (set 2), and a stray, number 4. */
    private static PoleSets box() {
        return with(x -> {
            x.line(0, 0, 1000);
            x.line(0, 90, 1000);
            x.line(90, 0, 1000);
            x.crack(0, 0, 90, 10);
            x.crack(1, 0, 0, 100);
            x.crack(0, 180, 90, 31);
            x.crack(1, 77, 0, 200);
            x.crack(0, 200, 45, 500);
            x.crack(0, 0, 90, 70);
            x.crack(1, 301, 0, 401);
            x.crack(2, 90, 90, 5);
            x.crack(2, 270, 90, 6);
            x.crack(2, 90, 90, 15);
        });
    }

    /** Dips 10, 20, 30, 40 towards 0: each hangs on the next by 10 only. */
    private static PoleSets chain() {
        return with(x -> {
            x.line(0, 90, 1000);
            x.crack(0, 0, 10, 0);
            x.crack(0, 0, 20, 0);
            x.crack(0, 0, 30, 0);
            x.crack(0, 0, 40, 0);
        });
    }

    /** Three of a lie each, in the order told; each is a set, numbered by its lie. */
    private static PoleSets threes(int... lies) {
        return with(x -> {
            x.line(0, 90, 1000);
            for (int i = 0; i < lies.length; i += 2) {
                for (int k = 0; k < 3; k++) {
                    x.crack(0, lies[i], lies[i + 1], k);
                }
            }
        });
    }

    // ---- what is told

    private static void newObject() {
        PoleSets x = empty();
        due("status()", x.status(), 0);
        for (int what = 0; what <= 4; what++) {
            good(x, "many", x.many(what), 0);
        }
        good(x, "cap(1)", x.cap(1), 1);
        good(x, "link(10, 3)", x.link(10, 3), 1003);
        refused(x, "of(0, 0)", x.of(0, 0), 2);
        refused(x, "along(0, 0)", x.along(0, 0), 2);
        refused(x, "set(0, 0)", x.set(0, 0), 2);
        due("NONE", PoleSets.NONE, -1);
        PoleSets slope = threes(20, 35, 180, 60);
        good(slope, "the slope at first: risk(0)", slope.risk(0), 1);
        good(slope, "the slope at first: risk(1)", slope.risk(1), 2);
        PoleSets left = threes(340, 35);
        good(left, "the slope at first, from the other side: risk(0)", left.risk(0), 1);
        good(left, "the slope at first: steepest()", left.steepest(), 35);
    }

    private static void status() {
        PoleSets x = fan();
        x.many(9);
        due("status()", x.status(), 1);
        due("status() once more", x.status(), 1);
        x.drop(9);
        due("status()", x.status(), 2);
        x.stray(0);
        due("status()", x.status(), 5);
        x.digest();
        due("status()", x.status(), 0);
        x.many(-1);
        x.steepest();
        due("status()", x.status(), 0);
        for (int i = 0; i < 5; i++) {
            x.line(0, 0, 1);
        }
        x.line(0, 0, 1);
        due("status()", x.status(), 3);
        x.set(0, 0);
        due("status()", x.status(), 0);
        x.many(-1);
        x.of(0, 9);
        due("status()", x.status(), 0);
    }

    private static void line() {
        PoleSets x = empty();
        good(x, "line(0, 0, 1)", x.line(0, 0, 1), 0);
        good(x, "line(359, 90, 100000)", x.line(359, 90, 100000), 1);
        refused(x, "line(-1, 0, 1)", x.line(-1, 0, 1), 1);
        refused(x, "line(360, 0, 1)", x.line(360, 0, 1), 1);
        refused(x, "line(0, -1, 1)", x.line(0, -1, 1), 1);
        refused(x, "line(0, 91, 1)", x.line(0, 91, 1), 1);
        refused(x, "line(0, 0, 0)", x.line(0, 0, 0), 1);
        refused(x, "line(0, 0, 100001)", x.line(0, 0, 100001), 1);
        refused(x, "line(min, 0, 1)", x.line(Integer.MIN_VALUE, 0, 1), 1);
        good(x, "many(0)", x.many(0), 2);
        for (int i = 2; i < 6; i++) {
            good(x, "line(1, 2, 3)", x.line(1, 2, 3), i);
        }
        refused(x, "a seventh line", x.line(1, 2, 3), 3);
        refused(x, "a seventh that can't be", x.line(1, 2, 0), 1);
        good(x, "many(0)", x.many(0), 6);
    }

    private static void crack() {
        PoleSets x = empty();
        refused(x, "crack without a line", x.crack(0, 0, 0, 0), 2);
        x.line(0, 0, 50);
        good(x, "crack(0, 0, 0, 0)", x.crack(0, 0, 0, 0), 0);
        good(x, "crack(0, 359, 90, 50)", x.crack(0, 359, 90, 50), 1);
        refused(x, "crack(0, -1, 0, 0)", x.crack(0, -1, 0, 0), 1);
        refused(x, "crack(0, 360, 0, 0)", x.crack(0, 360, 0, 0), 1);
        refused(x, "crack(0, 0, -1, 0)", x.crack(0, 0, -1, 0), 1);
        refused(x, "crack(0, 0, 91, 0)", x.crack(0, 0, 91, 0), 1);
        refused(x, "crack(0, 0, 0, -1)", x.crack(0, 0, 0, -1), 1);
        refused(x, "crack(0, 0, 0, 51)", x.crack(0, 0, 0, 51), 1);
        refused(x, "crack(1, 0, 0, 51)", x.crack(1, 0, 0, 51), 2);
        refused(x, "crack(-1, 0, 0, 0)", x.crack(-1, 0, 0, 0), 2);
        refused(x, "crack(1, 0, 0, -1)", x.crack(1, 0, 0, -1), 1);
        refused(x, "crack(1, 360, 0, 0)", x.crack(1, 360, 0, 0), 1);
        good(x, "many(1)", x.many(1), 2);
        for (int i = 2; i < 60; i++) {
            good(x, "crack", x.crack(0, i, 30, 7), i);
        }
        refused(x, "a sixty-first", x.crack(0, 0, 0, 0), 3);
        refused(x, "a sixty-first too far on", x.crack(0, 0, 0, 51), 1);
        refused(x, "a sixty-first on no line", x.crack(1, 0, 0, 0), 2);
        refused(x, "a sixty-first that can't be", x.crack(1, 0, 0, -1), 1);
        good(x, "many(1)", x.many(1), 60);
        good(x, "drop", x.drop(0), 59);
        good(x, "room again", x.crack(0, 5, 6, 7), 59);
    }

    private static void drop() {
        PoleSets x = fan();
        refused(x, "drop(3)", x.drop(3), 2);
        refused(x, "drop(-1)", x.drop(-1), 2);
        good(x, "many(1)", x.many(1), 3);
        good(x, "many(3)", x.many(3), 1);
        good(x, "drop(1)", x.drop(1), 2);
        good(x, "of(0, 2)", x.of(0, 2), 40);
        good(x, "of(1, 2)", x.of(1, 2), 45);
        good(x, "of(1, 3)", x.of(1, 3), 900);
        good(x, "angle(0, 1)", x.angle(0, 1), 5);
        good(x, "many(3)", x.many(3), 0);
        good(x, "crack", x.crack(0, 0, 50, 1), 2);
        good(x, "angle(0, 2)", x.angle(0, 2), 10);
        good(x, "angle(1, 2)", x.angle(1, 2), 5);
        good(x, "along(0, 6)", x.along(0, 6), 3);
        good(x, "drop(2)", x.drop(2), 2);
        good(x, "drop(0)", x.drop(0), 1);
        good(x, "drop(0)", x.drop(0), 0);
        refused(x, "drop(0)", x.drop(0), 2);
    }

    private static void link() {
        PoleSets x = fan();
        good(x, "link(45, 20)", x.link(45, 20), 1003);
        good(x, "link(1, 2)", x.link(1, 2), 4520);
        refused(x, "link(0, 2)", x.link(0, 2), 1);
        refused(x, "link(46, 2)", x.link(46, 2), 1);
        refused(x, "link(1, 1)", x.link(1, 1), 1);
        refused(x, "link(1, 21)", x.link(1, 21), 1);
        good(x, "link(5, 3)", x.link(5, 3), 102);
        good(x, "many(3)", x.many(3), 1);
        good(x, "link(4, 2)", x.link(4, 2), 503);
        good(x, "many(3)", x.many(3), 0);
        good(x, "link(5, 4)", x.link(5, 4), 402);
        good(x, "many(3)", x.many(3), 0);
    }

    private static void cap() {
        PoleSets x = box();
        good(x, "cap(20)", x.cap(20), 1);
        refused(x, "cap(0)", x.cap(0), 1);
        refused(x, "cap(21)", x.cap(21), 1);
        refused(x, "cap(-1)", x.cap(-1), 1);
        good(x, "of(4, 7)", x.of(4, 7), 1506);
        good(x, "cap(1)", x.cap(1), 20);
        good(x, "of(4, 7)", x.of(4, 7), 1000);
    }

    private static void slope() {
        PoleSets x = threes(20, 35, 180, 60);
        good(x, "slope(0, 60, 30, 20)", x.slope(0, 60, 30, 20), 1);
        good(x, "slope(0, 60, 30, 19)", x.slope(0, 60, 30, 19), 0);
        good(x, "slope(0, 60, 35, 20)", x.slope(0, 60, 35, 20), 0);
        good(x, "slope(0, 60, 34, 20)", x.slope(0, 60, 34, 20), 1);
        good(x, "slope(0, 35, 30, 20)", x.slope(0, 35, 30, 20), 0);
        good(x, "slope(0, 36, 30, 20)", x.slope(0, 36, 30, 20), 1);
        good(x, "slope(359, 36, 30, 21)", x.slope(359, 36, 30, 21), 1);
        good(x, "slope(359, 36, 30, 20)", x.slope(359, 36, 30, 20), 0);
        good(x, "slope(180, 61, 0, 0)", x.slope(180, 61, 0, 0), 1);
        good(x, "slope(0, 1, 89, 45)", x.slope(0, 1, 89, 45), 0);
        good(x, "slope(359, 90, 0, 45)", x.slope(359, 90, 0, 45), 1);
        x.slope(0, 60, 30, 20);
        refused(x, "slope(-1, ..)", x.slope(-1, 60, 30, 20), 1);
        refused(x, "slope(360, ..)", x.slope(360, 60, 30, 20), 1);
        refused(x, "slope(.., 0, ..)", x.slope(180, 0, 30, 20), 1);
        refused(x, "slope(.., 91, ..)", x.slope(180, 91, 30, 20), 1);
        refused(x, "slope(.., -1, ..)", x.slope(180, 60, -1, 20), 1);
        refused(x, "slope(.., 90, ..)", x.slope(180, 60, 90, 20), 1);
        refused(x, "slope(.., -1)", x.slope(180, 60, 30, -1), 1);
        refused(x, "slope(.., 46)", x.slope(180, 60, 30, 46), 1);
        good(x, "risk(0)", x.risk(0), 1);
    }

    // ---- poles

    private static void many() {
        PoleSets x = box();
        good(x, "many(0)", x.many(0), 3);
        good(x, "many(1)", x.many(1), 10);
        good(x, "many(2)", x.many(2), 4);
        good(x, "many(3)", x.many(3), 3);
        good(x, "many(4)", x.many(4), 1);
        refused(x, "many(5)", x.many(5), 1);
        refused(x, "many(-1)", x.many(-1), 1);
        x.crack(0, 20, 45, 0);
        x.crack(0, 200, 44, 0);
        x.crack(0, 200, 45, 0);
        good(x, "many(2)", x.many(2), 6);
    }

    private static void of() {
        PoleSets x = box();
        int[] due = {0, 200, 45, 500, 661, 241, 705, 1000, 1, -1};
        for (int what = 0; what < due.length; what++) {
            good(x, "of(4, " + what + ")", x.of(4, what), due[what]);
        }
        good(x, "of(2, 1): as it was told", x.of(2, 1), 180);
        good(x, "of(2, 4): by the plain one", x.of(2, 4), -1000);
        good(x, "of(2, 8)", x.of(2, 8), 3);
        good(x, "of(3, 1)", x.of(3, 1), 77);
        good(x, "of(3, 6)", x.of(3, 6), 1000);
        good(x, "of(3, 8)", x.of(3, 8), 3);
        good(x, "of(3, 9)", x.of(3, 9), 0);
        good(x, "of(8, 9)", x.of(8, 9), 2);
        good(x, "of(8, 5)", x.of(8, 5), -1000);
        good(x, "of(8, 0)", x.of(8, 0), 2);
        refused(x, "of(0, 10)", x.of(0, 10), 1);
        refused(x, "of(0, -1)", x.of(0, -1), 1);
        refused(x, "of(10, 10)", x.of(10, 10), 1);
        refused(x, "of(10, 0)", x.of(10, 0), 2);
        refused(x, "of(-1, 9)", x.of(-1, 9), 2);
        PoleSets blind = with(y -> {
            y.line(0, 0, 9);
            y.cap(20);
            y.crack(0, 90, 90, 0);
            y.crack(0, 88, 90, 0);
            y.crack(0, 85, 90, 0);
            y.crack(0, 0, 60, 0);
        });
        good(blind, "a weight with DOT 0", blind.of(0, 7), 20000);
        good(blind, "a weight above CAP", blind.of(1, 7), 20000);
        good(blind, "a weight below CAP", blind.of(2, 7), 11362);
        good(blind, "a weight below CAP", blind.of(3, 7), 1155);
    }

    private static void along() {
        PoleSets x = empty();
        x.line(210, 30, 77);
        x.line(0, 90, 5);
        x.crack(1, 0, 0, 0);
        int[] due = {210, 30, 77, -746, -432, 500, 0};
        for (int what = 0; what < due.length; what++) {
            good(x, "along(0, " + what + ")", x.along(0, what), due[what]);
        }
        good(x, "along(1, 5)", x.along(1, 5), 1000);
        good(x, "along(1, 6)", x.along(1, 6), 1);
        refused(x, "along(0, 7)", x.along(0, 7), 1);
        refused(x, "along(0, -1)", x.along(0, -1), 1);
        refused(x, "along(2, 7)", x.along(2, 7), 1);
        refused(x, "along(2, 0)", x.along(2, 0), 2);
        refused(x, "along(-1, 0)", x.along(-1, 0), 2);
        PoleSets below = with(y -> y.line(183, 89, 1));
        good(below, "along(0, 4): -0.9 is cut to 0", below.along(0, 4), 0);
        good(below, "along(0, 3)", below.along(0, 3), -16);
    }

    private static void angle() {
        PoleSets x = fan();
        good(x, "angle(0, 1)", x.angle(0, 1), 10);
        good(x, "angle(1, 0)", x.angle(1, 0), 10);
        good(x, "angle(0, 2)", x.angle(0, 2), 5);
        good(x, "angle(0, 0)", x.angle(0, 0), 0);
        refused(x, "angle(0, 3)", x.angle(0, 3), 2);
        refused(x, "angle(3, 0)", x.angle(3, 0), 2);
        refused(x, "angle(-1, 0)", x.angle(-1, 0), 2);
        refused(x, "angle(0, -1)", x.angle(0, -1), 2);
        PoleSets turned = threes(5, 80, 185, 80, 185, 90);
        good(turned, "angle across the rim", turned.angle(0, 3), 21);
        good(turned, "angle to the rim", turned.angle(3, 6), 10);
        PoleSets square = box();
        good(square, "angle(0, 1)", square.angle(0, 1), 90);
        good(square, "angle(1, 3)", square.angle(1, 3), 0);
    }

    private static void near() {
        PoleSets x = fan();
        good(x, "near(0, 0)", x.near(0, 0), 1);
        good(x, "near(0, 4)", x.near(0, 4), 1);
        good(x, "near(0, 5)", x.near(0, 5), 2);
        good(x, "near(0, 9)", x.near(0, 9), 2);
        good(x, "near(0, 10)", x.near(0, 10), 3);
        good(x, "near(2, 5)", x.near(2, 5), 3);
        good(x, "near(2, 90)", x.near(2, 90), 3);
        refused(x, "near(0, -1)", x.near(0, -1), 1);
        refused(x, "near(0, 91)", x.near(0, 91), 1);
        refused(x, "near(3, 91)", x.near(3, 91), 1);
        refused(x, "near(3, 0)", x.near(3, 0), 2);
        refused(x, "near(-1, 0)", x.near(-1, 0), 2);
    }

    // ---- sets

    private static void set() {
        PoleSets x = fan();
        long[] due = {3, 3000, 0, 44, -703, 0, 703, 2983, 17647, 5, 5, 40};
        for (int what = 0; what < due.length; what++) {
            good(x, "set(0, " + what + ")", x.set(0, what), due[what]);
        }
        refused(x, "set(0, 12)", x.set(0, 12), 1);
        refused(x, "set(0, -1)", x.set(0, -1), 1);
        refused(x, "set(1, 12)", x.set(1, 12), 1);
        refused(x, "set(1, 0)", x.set(1, 0), 2);
        refused(x, "set(-1, 0)", x.set(-1, 0), 2);
        x.link(5, 3);
        good(x, "the seed by LINK 5", x.set(0, 11), 45);
        x.drop(1);
        refused(x, "too few", x.set(0, 0), 2);
        PoleSets order = threes(300, 60, 20, 50, 20, 30, 200, 90);
        order.crack(0, 300, 60, 9);
        int[] seeds = {30060, 2030, 2050, 2090};
        for (int i = 0; i < seeds.length; i++) {
            good(order, "the seed of " + i, order.set(i, 11), seeds[i]);
        }
        good(order, "most first", order.set(0, 0), 4);
        good(order, "tight of like ones: poles are shorter than 1000", order.set(0, 8), 400000 / 14);
        good(order, "turned up, by y", order.set(3, 5) > 0 ? 1 : 0, 1);
        heavySet();
        turnedPoles();
        stateOfOthers();
    }

    /** Poles square to that of the seed stay as they are; those beyond are turned round. */
    private static void turnedPoles() {
        PoleSets x = with(y -> {
            y.line(0, 90, 9);
            y.link(31, 3);
            y.crack(0, 0, 0, 0);
            y.crack(0, 180, 20, 0);
            y.crack(0, 180, 20, 0);
            y.crack(0, 0, 30, 0);
            y.crack(0, 0, 60, 0);
            y.crack(0, 0, 90, 0);
        });
        good(x, "members in a long chain", x.set(0, 0), 6);
        good(x, "its seed", x.set(0, 11), 0);
        good(x, "set(0, 4): (686 - 500 - 864 - 1000) by 6", x.set(0, 4), -1678 / 6);
        good(x, "set(0, 6): (1000 + 1878 + 864 + 500) by 6", x.set(0, 6), 4242 / 6);
        PoleSets rim = with(y -> {
            y.line(0, 90, 9);
            y.link(21, 2);
            y.crack(0, 170, 90, 0);
            y.crack(0, 10, 90, 0);
        });
        good(rim, "set(0, 4): both sides of the rim", rim.set(0, 4), 984);
        good(rim, "set(0, 5)", rim.set(0, 5), 0);
        good(rim, "set(0, 11)", rim.set(0, 11), 1090);
    }

    /** What was worked out of one set is of no matter to another, nor the order of cracks. */
    private static void stateOfOthers() {
        PoleSets x = threes(0, 0);
        x.crack(0, 0, 50, 0);
        x.crack(0, 0, 45, 0);
        x.crack(0, 0, 40, 0);
        x.apart(0, 1);
        good(x, "set(1, 9)", x.set(1, 9), 5);
        good(x, "set(1, 10)", x.set(1, 10), 5);
        PoleSets back = with(y -> {
            y.line(0, 90, 9);
            y.link(5, 3);
            y.crack(0, 0, 50, 0);
            y.crack(0, 0, 40, 0);
            y.crack(0, 0, 45, 0);
        });
        good(back, "set(0, 11)", back.set(0, 11), 45);
        PoleSets two = with(y -> {
            y.line(0, 90, 9);
            y.link(5, 2);
            y.crack(0, 0, 88, 0);
            y.crack(0, 0, 88, 0);
        });
        good(two, "LONG is one less than MASS", two.set(0, 7), 1999);
        good(two, "TIGHT by 1", two.set(0, 8), 200000);
    }

    /** Sixty of the greatest weight: sums whose squares need all the room there is. */
    private static void heavySet() {
        PoleSets x = with(y -> {
            y.line(0, 90, 9);
            y.cap(20);
            for (int i = 0; i < 60; i++) {
                y.crack(0, 0, 90, 0);
            }
        });
        good(x, "set(0, 1)", x.set(0, 1), 1200000);
        good(x, "set(0, 4)", x.set(0, 4), 1000);
        good(x, "set(0, 7)", x.set(0, 7), 1200000);
        good(x, "set(0, 8)", x.set(0, 8), 1000000);
    }

    private static void member() {
        PoleSets x = box();
        good(x, "member(0, 0)", x.member(0, 0), 1);
        good(x, "member(0, 1)", x.member(0, 1), 3);
        good(x, "member(0, 2)", x.member(0, 2), 6);
        good(x, "member(2, 0)", x.member(2, 0), 7);
        refused(x, "member(0, 3)", x.member(0, 3), 5);
        refused(x, "member(0, max)", x.member(0, Integer.MAX_VALUE), 5);
        refused(x, "member(0, -1)", x.member(0, -1), 1);
        refused(x, "member(3, -1)", x.member(3, -1), 1);
        refused(x, "member(3, 0)", x.member(3, 0), 2);
        refused(x, "member(-1, 0)", x.member(-1, 0), 2);
    }

    private static void stray() {
        PoleSets x = box();
        good(x, "stray(0)", x.stray(0), 4);
        refused(x, "stray(1)", x.stray(1), 5);
        refused(x, "stray(-1)", x.stray(-1), 1);
        x.drop(0);
        good(x, "stray(0)", x.stray(0), 1);
        good(x, "stray(1)", x.stray(1), 3);
        good(x, "stray(2)", x.stray(2), 4);
        refused(x, "stray(3)", x.stray(3), 5);
        PoleSets e = empty();
        refused(e, "stray(0)", e.stray(0), 5);
    }

    private static void apart() {
        PoleSets x = threes(0, 0, 0, 30, 180, 85);
        good(x, "apart(0, 1)", x.apart(0, 1), 30);
        good(x, "apart(1, 0)", x.apart(1, 0), 30);
        good(x, "apart(0, 2)", x.apart(0, 2), 85);
        good(x, "apart(1, 2): across the rim", x.apart(1, 2), 66);
        refused(x, "apart(0, 0)", x.apart(0, 0), 2);
        refused(x, "apart(0, 3)", x.apart(0, 3), 2);
        refused(x, "apart(-1, 0)", x.apart(-1, 0), 2);
    }

    private static void hangs() {
        PoleSets x = chain();
        good(x, "hangs(0, 3)", x.hangs(0, 3), x.hangs(3, 0));
        good(x, "hangs(0, 1)", x.hangs(0, 1), x.angle(0, 1));
        good(x, "hangs(0, 3) is the widest step", x.hangs(0, 3),
            Math.max(x.angle(0, 1), Math.max(x.angle(1, 2), x.angle(2, 3))));
        good(x, "hangs(2, 2)", x.hangs(2, 2), 0);
        x.drop(1);
        good(x, "hangs(0, 1) by no step between", x.hangs(0, 1), 20);
        refused(x, "hangs(0, 3)", x.hangs(0, 3), 2);
        refused(x, "hangs(3, 3)", x.hangs(3, 3), 2);
        refused(x, "hangs(-1, 0)", x.hangs(-1, 0), 2);
        PoleSets square = box();
        good(square, "hangs(0, 2): alike", square.hangs(0, 2), 0);
        square.drop(4);
        good(square, "hangs(0, 1)", square.hangs(0, 1), 90);
    }

    private static void overlap() {
        PoleSets x = with(y -> {
            y.line(0, 90, 9);
            y.link(10, 3);
            for (int dip = 0; dip <= 40; dip += 10) {
                y.crack(0, 0, dip, 0);
            }
            for (int k = 0; k < 3; k++) {
                y.crack(0, 70, 35, 0);
            }
        });
        good(x, "two sets", x.many(3), 2);
        good(x, "overlap(0, 1, 0)", x.overlap(0, 1, 0),
            x.apart(0, 1) <= x.set(0, 9) + x.set(1, 9) ? 1 : 0);
        good(x, "overlap(0, 1, 1)", x.overlap(0, 1, 1), 0);
        good(x, "overlap(1, 0, 1)", x.overlap(1, 0, 1), 0);
        refused(x, "overlap(0, 1, 2)", x.overlap(0, 1, 2), 1);
        refused(x, "overlap(0, 1, -1)", x.overlap(0, 1, -1), 1);
        refused(x, "overlap(0, 0, 2)", x.overlap(0, 0, 2), 1);
        refused(x, "overlap(0, 0, 0)", x.overlap(0, 0, 0), 2);
        refused(x, "overlap(0, 2, 0)", x.overlap(0, 2, 0), 2);
        refused(x, "overlap(-1, 0, 0)", x.overlap(-1, 0, 0), 2);
        PoleSets girdle = around();
        good(girdle, "overlap(0, 1, 0): inside a ring", girdle.overlap(0, 1, 0), 1);
        good(girdle, "overlap(0, 1, 1)", girdle.overlap(0, 1, 1), 0);
        good(girdle, "overlap(1, 0, 1)", girdle.overlap(1, 0, 1), 3);
        PoleSets first = with(y -> {
            y.line(0, 90, 9);
            y.link(12, 3);
            for (int k = 0; k < 3; k++) {
                y.crack(0, 0, 0, 0);
            }
            for (int direction = 0; direction < 360; direction += 20) {
                y.crack(0, direction, 30, 0);
            }
        });
        good(first, "overlap(1, 0, 1): the first crack, too", first.overlap(1, 0, 1), 3);
    }

    /** A ring of dip 30 round three flat ones. */
    private static PoleSets around() {
        return with(y -> {
            y.line(0, 90, 9);
            y.link(12, 3);
            for (int direction = 0; direction < 360; direction += 20) {
                y.crack(0, direction, 30, 0);
            }
            for (int k = 0; k < 3; k++) {
                y.crack(0, 0, 0, 0);
            }
        });
    }

    private static void digest() {
        PoleSets x = box();
        int due = 17;
        due = (due * 31 + 0) * 31 + 3;
        due = (due * 31 + 90) * 31 + 3;
        due = (due * 31 + 9090) * 31 + 3;
        due = due * 31 + 1;
        good(x, "digest()", x.digest(), due);
        x.drop(4);
        good(x, "digest()", x.digest(), due - 1);
        PoleSets turned = threes(270, 90, 180, 90, 12, 0);
        good(turned, "digest() by another order", turned.digest(), due - 1);
        PoleSets e = empty();
        good(e, "digest()", e.digest(), 527);
    }

    private static void without() {
        PoleSets x = chain();
        x.link(10, 2);
        good(x, "many(3)", x.many(3), 1);
        good(x, "without(0)", x.without(0), 1);
        good(x, "without(1)", x.without(1), 1);
        x.link(10, 4);
        good(x, "without(0)", x.without(0), 0);
        x.link(10, 2);
        x.crack(0, 0, 50, 0);
        good(x, "without(2)", x.without(2), 2);
        good(x, "many(3)", x.many(3), 1);
        good(x, "many(1)", x.many(1), 5);
        refused(x, "without(5)", x.without(5), 2);
        refused(x, "without(-1)", x.without(-1), 2);
    }

    private static void bridges() {
        PoleSets x = chain();
        good(x, "bridges(0)", x.bridges(0), 2);
        good(x, "bridges(1)", x.bridges(1), 1);
        x.link(20, 3);
        good(x, "bridges(0)", x.bridges(0), 0);
        refused(x, "bridges(1)", x.bridges(1), 5);
        x.link(10, 5);
        good(x, "bridges of no set", x.bridges(0), 0);
        x.link(10, 2);
        x.crack(0, 0, 20, 0);
        good(x, "bridges(0): one has a double", x.bridges(0), 1);
        good(x, "bridges(1)", x.bridges(1), 2);
        x.drop(3);
        good(x, "bridges(0)", x.bridges(0), 0);
        refused(x, "bridges(2)", x.bridges(2), 1);
        refused(x, "bridges(-1)", x.bridges(-1), 1);
    }

    private static void nearestSet() {
        PoleSets x = threes(0, 0, 0, 60);
        x.crack(0, 0, 30, 0);
        x.crack(0, 0, 31, 0);
        good(x, "nearestSet(6, 0): like ones", x.nearestSet(6, 0), 0);
        good(x, "nearestSet(6, 1)", x.nearestSet(6, 1), 30);
        good(x, "nearestSet(7, 0)", x.nearestSet(7, 0), 1);
        good(x, "nearestSet(4, 0)", x.nearestSet(4, 0), 1);
        good(x, "nearestSet(4, 1)", x.nearestSet(4, 1), 0);
        refused(x, "nearestSet(0, 2)", x.nearestSet(0, 2), 1);
        refused(x, "nearestSet(8, 2)", x.nearestSet(8, 2), 1);
        refused(x, "nearestSet(8, 0)", x.nearestSet(8, 0), 2);
        refused(x, "nearestSet(-1, 0)", x.nearestSet(-1, 0), 2);
        x.link(10, 20);
        refused(x, "nearestSet without sets", x.nearestSet(0, 0), 5);
        refused(x, "nearestSet without sets", x.nearestSet(8, 0), 2);
    }

    private static void would() {
        PoleSets x = chain();
        good(x, "would(10)", x.would(10), 1);
        good(x, "would(9)", x.would(9), x.hangs(0, 2) <= 9 ? 1 : 0);
        good(x, "would(1)", x.would(1), 0);
        good(x, "would(45)", x.would(45), 1);
        refused(x, "would(0)", x.would(0), 1);
        refused(x, "would(46)", x.would(46), 1);
        good(x, "link stays", x.link(1, 5), 1003);
        good(x, "would(45) by LEAST 5", x.would(45), 0);
        x.link(1, 3);
        good(x, "would(10)", x.would(10), 1);
        good(x, "many(3)", x.many(3), 0);
    }

    private static void linkFor() {
        PoleSets x = threes(0, 0, 0, 30, 0, 70);
        good(x, "linkFor(3)", x.linkFor(3), 1);
        good(x, "linkFor(2)", x.linkFor(2), x.angle(0, 3));
        good(x, "linkFor(1)", x.linkFor(1), x.angle(3, 6));
        refused(x, "linkFor(0)", x.linkFor(0), 5);
        refused(x, "linkFor(4)", x.linkFor(4), 5);
        refused(x, "linkFor(-1)", x.linkFor(-1), 1);
        x.link(10, 4);
        good(x, "linkFor(0)", x.linkFor(0), 1);
        refused(x, "linkFor(max)", x.linkFor(Integer.MAX_VALUE), 5);
        good(x, "link stays", x.link(10, 4), 1004);
        PoleSets wide = threes(0, 0, 0, 45);
        good(wide, "linkFor(1): the widest LINK", wide.linkFor(1), 45);
    }

    // ---- settled, thick

    /** Three flat ones, three of dip 40, and strays of dip 18 (a) and 75 (b). */
    private static PoleSets loose() {
        PoleSets x = threes(0, 0, 0, 40);
        x.crack(0, 0, 18, 0);
        x.crack(0, 0, 75, 0);
        return x;
    }

    private static void settled() {
        PoleSets x = loose();
        good(x, "settled(18, 0)", x.settled(18, 0), 2);
        good(x, "settled(18, 1)", x.settled(18, 1), 1);
        good(x, "settled(18, 2)", x.settled(18, 2), 1);
        good(x, "settled(17, 0)", x.settled(17, 0), 1);
        good(x, "settled(17, 1)", x.settled(17, 1), 0);
        good(x, "settled(17, 2)", x.settled(17, 2), 2);
        good(x, "settled(90, 2)", x.settled(90, 2), 0);
        good(x, "settled(90, 1)", x.settled(90, 1), 2);
        refused(x, "settled(0, 0)", x.settled(0, 0), 1);
        refused(x, "settled(91, 0)", x.settled(91, 0), 1);
        refused(x, "settled(1, 3)", x.settled(1, 3), 1);
        refused(x, "settled(1, -1)", x.settled(1, -1), 1);
        PoleSets ring = around();
        good(ring, "a ring that goes to its middle", ring.settled(30, 1), 3);
        PoleSets e = empty();
        good(e, "settled(1, 0)", e.settled(1, 0), 1);
        PoleSets drifting = with(y -> {
            y.line(0, 90, 9);
            y.link(1, 3);
            int[] directions = {0, 0, 0, 27, 34, 42, 45, 50, 58, 60, 63, 71, 74, 78, 82, 84, 88, 94, 99, 103};
            for (int direction : directions) {
                y.crack(0, direction, 90, 0);
            }
        });
        good(drifting, "twelve rounds at most, of sixteen", drifting.settled(33, 0), 12);
    }

    private static void settledIn() {
        PoleSets x = loose();
        good(x, "settledIn(18, 6)", x.settledIn(18, 6), 0);
        good(x, "settledIn(17, 6)", x.settledIn(17, 6), -1);
        good(x, "settledIn(18, 7)", x.settledIn(18, 7), -1);
        good(x, "settledIn(90, 7)", x.settledIn(90, 7), 1);
        good(x, "settledIn(1, 3)", x.settledIn(1, 3), 1);
        refused(x, "settledIn(0, 0)", x.settledIn(0, 0), 1);
        refused(x, "settledIn(91, 8)", x.settledIn(91, 8), 1);
        refused(x, "settledIn(1, 8)", x.settledIn(1, 8), 2);
        refused(x, "settledIn(1, -1)", x.settledIn(1, -1), 2);
    }

    private static void settledLie() {
        PoleSets x = loose();
        good(x, "settledLie(17, 0)", x.settledLie(17, 0), 0);
        good(x, "settledLie(17, 1)", x.settledLie(17, 1), x.set(1, 3));
        good(x, "settledLie(18, 0): drawn by one of 18", x.settledLie(18, 0), 5);
        refused(x, "settledLie(0, 0)", x.settledLie(0, 0), 1);
        refused(x, "settledLie(91, 2)", x.settledLie(91, 2), 1);
        refused(x, "settledLie(18, 2)", x.settledLie(18, 2), 2);
        refused(x, "settledLie(18, -1)", x.settledLie(18, -1), 2);
    }

    private static void thick() {
        PoleSets x = box();
        x.cap(5);
        good(x, "thick(0, 0, 0)", x.thick(0, 0, 0), 3000);
        good(x, "thick(180, 90, 0)", x.thick(180, 90, 0), 3000);
        good(x, "thick(200, 45, 0)", x.thick(200, 45, 0), 1506);
        good(x, "thick(200, 45, 45)", x.thick(200, 45, 45), 4506);
        good(x, "thick(1, 2, 90)", x.thick(1, 2, 90), 10506);
        good(x, "thick(1, 60, 0)", x.thick(1, 60, 0), 0);
        wrongLies((direction, dip, angle) -> refused(x, "thick", x.thick(direction, dip, angle), 1));
    }

    private static void excess() {
        PoleSets x = box();
        x.cap(5);
        good(x, "excess(0, 0, 0)", x.excess(0, 0, 0), 3000);
        good(x, "excess(0, 0, 90)", x.excess(0, 0, 90), 0);
        good(x, "excess(1, 60, 60)", x.excess(1, 60, 60), x.thick(1, 60, 60) - 5253);
        good(x, "excess(1, 60, 10)", x.excess(1, 60, 10), -168);
        wrongLies((direction, dip, angle) -> refused(x, "excess", x.excess(direction, dip, angle), 1));
        PoleSets one = fan();
        one.drop(2);
        one.drop(1);
        good(one, "excess that is -1, and no NONE", one.excess(0, 80, 2), -1);
    }

    private interface ByLie {
        void call(int direction, int dip, int angle);
    }

    private static void wrongLies(ByLie by) {
        by.call(-1, 0, 0);
        by.call(360, 0, 0);
        by.call(0, -1, 0);
        by.call(0, 91, 0);
        by.call(0, 0, -1);
        by.call(0, 0, 91);
    }

    private static void rose() {
        PoleSets x = box();
        x.cap(5);
        good(x, "rose(9, 0)", x.rose(9, 0), 3);
        good(x, "rose(9, 1)", x.rose(9, 1), 3000);
        good(x, "rose(0, 0)", x.rose(0, 0), 3);
        good(x, "rose(11, 0)", x.rose(11, 0), 1);
        good(x, "rose(11, 1)", x.rose(11, 1), 1506);
        good(x, "rose(10, 0)", x.rose(10, 0), 0);
        x.crack(0, 89, 1, 0);
        x.crack(0, 99, 90, 0);
        x.crack(0, 100, 90, 0);
        good(x, "rose(17, 0)", x.rose(17, 0), 1);
        good(x, "rose(0, 0)", x.rose(0, 0), 4);
        good(x, "rose(1, 0)", x.rose(1, 0), 1);
        refused(x, "rose(-1, 0)", x.rose(-1, 0), 1);
        refused(x, "rose(18, 0)", x.rose(18, 0), 1);
        refused(x, "rose(0, 2)", x.rose(0, 2), 1);
        refused(x, "rose(0, -1)", x.rose(0, -1), 1);
    }

    private static void fabric() {
        PoleSets x = empty();
        refused(x, "fabric(6)", x.fabric(6), 1);
        refused(x, "fabric(0)", x.fabric(0), 5);
        x.line(0, 90, 9);
        x.crack(0, 30, 60, 0);
        int[] due = {-746 * -746, -432 * -432, 500 * 500, 746 * 432, -746 * 500, -432 * 500};
        for (int what = 0; what < due.length; what++) {
            good(x, "fabric(" + what + ")", x.fabric(what), due[what]);
        }
        x.crack(0, 0, 0, 0);
        x.crack(0, 0, 0, 0);
        good(x, "fabric(0)", x.fabric(0), 746 * 746 / 3);
        good(x, "fabric(4): cut towards 0", x.fabric(4), -(746 * 500 / 3));
        x.cap(20);
        good(x, "fabric(2) by weights", x.fabric(2), (1993L * 250000 + 2000L * 1000000) / 3993);
        refused(x, "fabric(-1)", x.fabric(-1), 1);
    }

    private static void axis() {
        PoleSets x = empty();
        refused(x, "axis(true, 2)", x.axis(true, 2), 1);
        refused(x, "axis(true, 0)", x.axis(true, 0), 5);
        x.line(0, 90, 9);
        x.crack(0, 0, 90, 0);
        good(x, "axis(true, 0)", x.axis(true, 0), 0);
        good(x, "axis(true, 1)", x.axis(true, 1), 90);
        good(x, "axis(false, 0)", x.axis(false, 0), 0);
        good(x, "axis(false, 1)", x.axis(false, 1), 0);
        x.drop(0);
        x.crack(0, 123, 37, 0);
        good(x, "axis(true, 0)", x.axis(true, 0), 123);
        good(x, "axis(true, 1)", x.axis(true, 1), 37);
        x.crack(0, 33, 90, 0);
        good(x, "axis(false, 0): square to both", x.axis(false, 0), 303);
        good(x, "axis(false, 1)", x.axis(false, 1), 53);
        refused(x, "axis(false, -1)", x.axis(false, -1), 1);
        x.drop(0);
        good(x, "axis(true, 0) without it", x.axis(true, 0), 33);
        good(x, "axis(false, 0) without it", x.axis(false, 0), 0);
        good(x, "axis(false, 1) without it", x.axis(false, 1), 0);
        x.crack(0, 12, 0, 0);
        x.drop(0);
        good(x, "axis(true, 0) of a flat one", x.axis(true, 0), 0);
        good(x, "axis(true, 1) of a flat one", x.axis(true, 1), 0);
        good(x, "axis(false, 0) of a flat one", x.axis(false, 0), 0);
        good(x, "axis(false, 1) of a flat one", x.axis(false, 1), 90);
    }

    private static void nextLine() {
        PoleSets x = empty();
        refused(x, "nextLine(3)", x.nextLine(3), 1);
        refused(x, "nextLine(0)", x.nextLine(0), 5);
        x.line(0, 90, 9);
        x.crack(0, 200, 40, 0);
        good(x, "nextLine(2) by CAP 1", x.nextLine(2), 1000);
        good(x, "nextLine(0) by CAP 1", x.nextLine(0), 0);
        good(x, "nextLine(1) by CAP 1", x.nextLine(1), 0);
        x.cap(10);
        good(x, "nextLine(0)", x.nextLine(0), 20);
        good(x, "nextLine(1)", x.nextLine(1), 50);
        good(x, "nextLine(2)", x.nextLine(2), 1000);
        refused(x, "nextLine(-1)", x.nextLine(-1), 1);
    }

    private static void blind() {
        PoleSets x = box();
        good(x, "blind(0, 0, 0)", x.blind(0, 0, 0), 0);
        good(x, "blind(0, 0, 1)", x.blind(0, 0, 1), 5);
        good(x, "blind(77, 0, 89)", x.blind(77, 0, 89), 5);
        good(x, "blind(180, 90, 1)", x.blind(180, 90, 1), 6);
        good(x, "blind(0, 45, 45)", x.blind(0, 45, 45), 4);
        good(x, "blind(0, 45, 46)", x.blind(0, 45, 46), 7);
        good(x, "blind(0, 90, 90)", x.blind(0, 90, 90), 6);
        wrongLies((direction, dip, angle) -> refused(x, "blind", x.blind(direction, dip, angle), 1));
    }

    private static void peak() {
        PoleSets x = empty();
        refused(x, "peak(0, 3)", x.peak(0, 3), 1);
        refused(x, "peak(0, 0)", x.peak(0, 0), 5);
        x.line(0, 90, 9);
        x.crack(0, 124, 37, 0);
        good(x, "peak(0, 2)", x.peak(0, 2), 0);
        good(x, "peak(0, 0)", x.peak(0, 0), 0);
        good(x, "peak(0, 1)", x.peak(0, 1), 0);
        good(x, "peak(4, 0)", x.peak(4, 0), 120);
        good(x, "peak(4, 1)", x.peak(4, 1), 40);
        good(x, "peak(4, 2)", x.peak(4, 2), 1000);
        good(x, "peak(90, 1)", x.peak(90, 1), 0);
        x.crack(0, 190, 90, 0);
        x.crack(0, 10, 90, 0);
        good(x, "peak(4, 0): the first of two", x.peak(4, 0), 10);
        good(x, "peak(4, 1)", x.peak(4, 1), 90);
        good(x, "peak(4, 2)", x.peak(4, 2), 2000);
        refused(x, "peak(-1, 0)", x.peak(-1, 0), 1);
        refused(x, "peak(91, 0)", x.peak(91, 0), 1);
        refused(x, "peak(0, -1)", x.peak(0, -1), 1);
    }

    // ---- spacing, blocks

    private static void spacing() {
        PoleSets x = fan();
        good(x, "spacing(0, 0, 0)", x.spacing(0, 0, 0), 2);
        good(x, "spacing(0, 0, 1)", x.spacing(0, 0, 1), 400);
        good(x, "spacing(0, 0, 2)", x.spacing(0, 0, 2), 282);
        PoleSets b = box();
        good(b, "spacing(0, 1, 1): cut", b.spacing(0, 1, 1), 150);
        good(b, "spacing(2, 2, 1)", b.spacing(2, 2, 1), 5);
        good(b, "spacing(2, 2, 2)", b.spacing(2, 2, 2), 5);
        refused(b, "spacing(0, 0, 0): none there", b.spacing(0, 0, 0), 5);
        b.crack(0, 0, 0, 0);
        refused(b, "spacing(0, 0, 2): one there", b.spacing(0, 0, 2), 5);
        b.crack(0, 0, 0, 9);
        good(b, "spacing(0, 0, 1)", b.spacing(0, 0, 1), 9);
        good(b, "spacing(0, 0, 2): along the planes", b.spacing(0, 0, 2), 0);
        PoleSets wide = with(y -> {
            y.line(0, 0, 100000);
            y.line(0, 90, 100000);
            y.crack(0, 0, 0, 0);
            y.crack(0, 0, 0, 100000);
            y.crack(1, 0, 0, 0);
            y.crack(1, 0, 0, 0);
        });
        good(wide, "spacing(0, 0, 1) over the longest", wide.spacing(0, 0, 1), 100000);
        good(wide, "spacing(0, 0, 2) along the planes", wide.spacing(0, 0, 2), 0);
        good(wide, "spacing(0, 1, 1) at one place", wide.spacing(0, 1, 1), 0);
        refused(wide, "meets by TRUE 0", wide.meets(0, 0, 0, 90, 1), 5);
        refused(wide, "meets by TRUE 0", wide.meets(0, 1, 0, 90, 1), 5);
        refused(b, "spacing(0, 0, 3)", b.spacing(0, 0, 3), 1);
        refused(b, "spacing(0, 0, -1)", b.spacing(0, 0, -1), 1);
        refused(b, "spacing(3, 0, 3)", b.spacing(3, 0, 3), 1);
        refused(b, "spacing(3, 0, 0)", b.spacing(3, 0, 0), 2);
        refused(b, "spacing(-1, 0, 0)", b.spacing(-1, 0, 0), 2);
        refused(b, "spacing(0, 3, 0)", b.spacing(0, 3, 0), 2);
        refused(b, "spacing(0, -1, 0)", b.spacing(0, -1, 0), 2);
    }

    private static void meets() {
        PoleSets x = fan();
        good(x, "meets straight across", x.meets(0, 0, 180, 45, 1000), 3);
        good(x, "meets upright", x.meets(0, 0, 7, 90, 1000), 2);
        good(x, "meets along the planes", x.meets(0, 0, 0, 45, 1000), 0);
        good(x, "meets over the longest", x.meets(0, 0, 180, 45, 100000), 354);
        refused(x, "meets(trend)", x.meets(0, 0, 360, 0, 1), 1);
        refused(x, "meets(trend)", x.meets(0, 0, -1, 0, 1), 1);
        refused(x, "meets(plunge)", x.meets(0, 0, 0, 91, 1), 1);
        refused(x, "meets(plunge)", x.meets(0, 0, 0, -1, 1), 1);
        refused(x, "meets(length)", x.meets(0, 0, 0, 0, 0), 1);
        refused(x, "meets(length)", x.meets(9, 0, 0, 0, 100001), 1);
        refused(x, "meets(set)", x.meets(1, 0, 0, 0, 1), 2);
        refused(x, "meets(set)", x.meets(-1, 0, 0, 0, 1), 2);
        refused(x, "meets(line)", x.meets(0, 1, 0, 0, 1), 2);
        refused(x, "meets(line)", x.meets(0, -1, 0, 0, 1), 2);
        PoleSets b = box();
        refused(b, "meets by none there", b.meets(0, 0, 0, 0, 1), 5);
        b.crack(0, 0, 0, 0);
        b.crack(0, 0, 0, 9);
        refused(b, "meets by TRUE 0", b.meets(0, 0, 0, 0, 1), 5);
        good(b, "meets by another line", b.meets(0, 1, 0, 90, 300), 2);
    }

    private static void block() {
        PoleSets x = threes(0, 0, 0, 60, 90, 90);
        good(x, "block(0, 1, 2, 1, 1, 1)", x.block(0, 1, 2, 1, 1, 1), 1000 / 864);
        good(x, "block(2, 1, 0, 10, 20, 30)", x.block(2, 1, 0, 10, 20, 30), 6000000 / 864);
        good(x, "block at most", x.block(1, 0, 2, 100000, 100000, 100000), 1000000000000000000L / 864);
        refused(x, "block(one)", x.block(0, 1, 2, 0, 1, 1), 1);
        refused(x, "block(two)", x.block(0, 1, 2, 1, 100001, 1), 1);
        refused(x, "block(three)", x.block(0, 1, 1, 1, 1, -1), 1);
        refused(x, "block of a like two", x.block(0, 0, 2, 1, 1, 1), 2);
        refused(x, "block of a like two", x.block(0, 1, 0, 1, 1, 1), 2);
        refused(x, "block of a like two", x.block(0, 2, 2, 1, 1, 1), 2);
        refused(x, "block of none", x.block(3, 1, 2, 1, 1, 1), 2);
        refused(x, "block of none", x.block(0, -1, 2, 1, 1, 1), 2);
        refused(x, "block of none", x.block(0, 1, 3, 1, 1, 1), 2);
        PoleSets flat = threes(0, 0, 0, 60, 0, 30);
        refused(flat, "block of three round one axis", flat.block(0, 1, 2, 1, 1, 1), 5);
    }

    // ---- wedges, slopes

    private static void wedge() {
        PoleSets x = threes(45, 60, 315, 60);
        good(x, "wedge(0, 1, 0)", x.wedge(0, 1, 0), 0);
        good(x, "wedge(0, 1, 1)", x.wedge(0, 1, 1), 49);
        good(x, "wedge(1, 0, 1)", x.wedge(1, 0, 1), 49);
        good(x, "wedge(0, 1, 2)", x.wedge(0, 1, 2), 609);
        good(x, "wedge(0, 1, 3)", x.wedge(0, 1, 3), 0);
        good(x, "wedge(0, 1, 4)", x.wedge(0, 1, 4), 741);
        good(x, "wedge(1, 0, 4)", x.wedge(1, 0, 4), 741);
        refused(x, "wedge(0, 1, 5)", x.wedge(0, 1, 5), 1);
        refused(x, "wedge(0, 0, -1)", x.wedge(0, 0, -1), 1);
        refused(x, "wedge(0, 0, 0)", x.wedge(0, 0, 0), 2);
        refused(x, "wedge(0, 2, 0)", x.wedge(0, 2, 0), 2);
        refused(x, "wedge(-1, 0, 0)", x.wedge(-1, 0, 0), 2);
        PoleSets level = threes(0, 0, 90, 90);
        level.crack(0, 90, 90, 0);
        good(level, "wedge(0, 1, 2): stays as it is", level.wedge(0, 1, 2), 1000);
        good(level, "wedge(0, 1, 0)", level.wedge(0, 1, 0), 0);
        good(level, "wedge(1, 0, 2)", level.wedge(1, 0, 2), 1000);
        level.crack(0, 0, 0, 0);
        level.crack(0, 0, 0, 0);
        good(level, "wedge(0, 1, 2): turned round", level.wedge(0, 1, 2), 1000);
        PoleSets none = around();
        good(none, "means that are alike", none.apart(0, 1), 0);
        for (int what = 0; what <= 4; what++) {
            refused(none, "no wedge", none.wedge(0, 1, what), 5);
        }
        good(none, "no wedge slides", none.risk(2), 0);
    }

    private static void risk() {
        PoleSets x = threes(45, 60, 315, 60, 180, 70);
        x.slope(0, 70, 30, 20);
        good(x, "risk(0)", x.risk(0), 0);
        good(x, "risk(1): a set of 180 leans out", x.risk(1), 2);
        good(x, "risk(2)", x.risk(2), 1);
        good(x, "risk(3): sets 0 and 2", x.risk(3), 2);
        x.slope(0, 70, 51, 20);
        good(x, "risk(1): 19 is less than 20", x.risk(1), 0);
        good(x, "risk(2): it holds", x.risk(2), 0);
        refused(x, "risk(3)", x.risk(3), 5);
        x.slope(0, 70, 50, 20);
        good(x, "risk(1): 20 is no less than 20", x.risk(1), 2);
        x.slope(0, 70, 49, 44);
        good(x, "risk(0): the directions of means are 44 and 314", x.risk(0), 1);
        good(x, "risk(2): PLUNGE no more than FRICTION", x.risk(2), 0);
        x.slope(359, 70, 48, 45);
        good(x, "risk(0): SIDE or less", x.risk(0), 5);
        good(x, "risk(2)", x.risk(2), 1);
        PoleSets later = threes(0, 0, 45, 60, 315, 60);
        good(later, "risk(3): sets 1 and 2", later.risk(3), 102);
        refused(x, "risk(4)", x.risk(4), 1);
        refused(x, "risk(-1)", x.risk(-1), 1);
    }

    private static void safety() {
        PoleSets x = threes(0, 0, 10, 30, 20, 90);
        refused(x, "safety(0): flat", x.safety(0), 5);
        good(x, "safety(1)", x.safety(1), 100 * 500 * 864 / (864 * 500));
        good(x, "safety(2)", x.safety(2), 0);
        x.slope(0, 60, 45, 20);
        good(x, "safety(1)", x.safety(1), 100 * 705 * 864 / (705 * 500));
        x.slope(0, 60, 89, 20);
        good(x, "safety(1)", x.safety(1), 100 * 999 * 864 / (17 * 500));
        x.slope(0, 60, 0, 20);
        good(x, "safety(1)", x.safety(1), 0);
        refused(x, "safety(3)", x.safety(3), 2);
        refused(x, "safety(-1)", x.safety(-1), 2);
    }

    private static void safest() {
        PoleSets x = threes(0, 50);
        good(x, "safest(0)", x.safest(0), 30);
        good(x, "safest(1)", x.safest(1), 0);
        x.slope(123, 60, 30, 0);
        good(x, "safest(0)", x.safest(0), 10);
        PoleSets all = threes(0, 50, 40, 50, 80, 50, 120, 50, 160, 50, 200, 50, 240, 50, 280, 50, 320, 50);
        all.slope(0, 60, 0, 45);
        int fewest = all.safest(1);
        int best = all.safest(0);
        for (int direction = 0; direction < 360; direction += 10) {
            all.slope(direction, 60, 0, 45);
            int here = Integer.bitCount(all.risk(0)) + Integer.bitCount(all.risk(1)) + all.risk(2);
            due("fewest, " + direction, here < fewest || here == fewest && direction < best ? 1 : 0, 0);
            due("at best, " + direction, direction != best || here == fewest ? 0 : 1, 0);
        }
        refused(x, "safest(2)", x.safest(2), 1);
        refused(x, "safest(-1)", x.safest(-1), 1);
    }

    private static void steepest() {
        PoleSets x = threes(0, 50);
        good(x, "steepest() by sliding: a mean that dips by 49", x.steepest(), 49);
        x.slope(0, 5, 50, 20);
        good(x, "steepest() by FRICTION", x.steepest(), 90);
        x.slope(180, 5, 30, 20);
        good(x, "steepest() by toppling", x.steepest(), 70);
        x.slope(90, 5, 30, 20);
        good(x, "steepest()", x.steepest(), 90);
        PoleSets w = threes(45, 60, 315, 60);
        good(w, "steepest() by a wedge", w.steepest(), 49);
        good(w, "the slope stays", w.slope(359, 70, 30, 45), 2);
        PoleSets flat = threes(0, 90);
        flat.slope(180, 60, 0, 0);
        good(flat, "steepest(): none at all", flat.steepest(), 0);
    }

    private static void fold() {
        PoleSets x = threes(90, 30, 270, 30);
        good(x, "fold by 0", x.fold(0, 1, 0, 0), 735);
        good(x, "fold one way", x.fold(0, 1, 0, 30) > 10000 || x.fold(0, 1, 0, -30) > 10000 ? 1 : 0, 1);
        good(x, "the other limb first", x.fold(1, 0, 0, 30), x.fold(0, 1, 0, -30));
        good(x, "fold by 180", x.fold(0, 1, 0, 180), 735);
        good(x, "fold by -180", x.fold(0, 1, 0, -180), 735);
        refused(x, "fold by 181", x.fold(0, 1, 0, 181), 1);
        refused(x, "fold by -181", x.fold(0, 1, 0, -181), 1);
        refused(x, "fold round 360", x.fold(0, 1, 360, 0), 1);
        refused(x, "fold round -1", x.fold(0, 0, -1, 0), 1);
        refused(x, "fold(0, 0, ..)", x.fold(0, 0, 0, 0), 2);
        refused(x, "fold(0, 2, ..)", x.fold(0, 2, 0, 0), 2);
        refused(x, "fold(-1, 0, ..)", x.fold(-1, 0, 0, 0), 2);
    }

    private static void unfold() {
        PoleSets x = threes(90, 30, 270, 30);
        int tight = x.unfold(0, 1, 180, 1);
        int g = x.unfold(0, 1, 180, 0);
        good(x, "unfold is a fold", x.fold(0, 1, 180, g), tight);
        for (int other = 0; other <= 90; other++) {
            int by = x.fold(0, 1, 180, other);
            due("none is tighter, " + other, by > tight || by == tight && other < g ? 1 : 0, 0);
        }
        good(x, "unfold(0, 1, 0, 0): both turned upright", x.unfold(0, 1, 0, 0), 60);
        good(x, "unfold(0, 1, 180, 0): both turned flat", x.unfold(0, 1, 180, 0), 29);
        refused(x, "unfold(0, 1, 360, 0)", x.unfold(0, 1, 360, 0), 1);
        refused(x, "unfold(0, 0, -1, 0)", x.unfold(0, 0, -1, 0), 1);
        refused(x, "unfold(0, 0, 0, 2)", x.unfold(0, 0, 0, 2), 1);
        refused(x, "unfold(0, 1, 0, -1)", x.unfold(0, 1, 0, -1), 1);
        refused(x, "unfold(0, 0, 0, 0)", x.unfold(0, 0, 0, 0), 2);
        refused(x, "unfold(2, 0, 0, 0)", x.unfold(2, 0, 0, 0), 2);
        refused(x, "unfold(0, -1, 0, 0)", x.unfold(0, -1, 0, 0), 2);
    }
}
