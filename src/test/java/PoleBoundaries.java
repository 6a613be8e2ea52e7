/** The document's part 1: numbers, sines, lies, lines, nearness, cracks, weights. */
final class PoleBoundaries {
    private final Check check;

    PoleBoundaries(Check check) {
        this.check = check;
    }

    void look() {
        calls();
        quotients();
        roots();
        sines();
        sinesThatGoRound();
        cosines();
        lies();
        alike();
        plain();
        poles();
        lines();
        arrows();
        near();
        angles();
        cracks();
        weights();
        caps();
    }

    private void calls() {
        check.sentence("An object is used for at most 512 calls after it has been made; what later calls answer is free.");
        PoleSets x = new PoleSets();
        for (int call = 1; call <= 60; call++) {
            x.cap(call % 20 + 1);
        }
        x.line(0, 90, 1000);
        for (int call = 62; call <= 121; call++) {
            x.crack(0, 0, 40 + call % 3 * 5, call);
        }
        for (int call = 122; call <= 509; call++) {
            x.link(1 + call % 45, 2 + call % 19);
        }
        check.due("the 510th call: cap(1)", x.cap(1), 1);
        check.due("the 511th call: link(45, 20)", x.link(45, 20), 100 * (1 + 509 % 45) + 2 + 509 % 19);
        check.due("the 512th call: set(0, 1)", x.set(0, 1), 60000);
    }

    private void quotients() {
        check.sentence("Whole numbers are divided with what is left cut off (towards 0), unless told otherwise;");
        PoleSets x = new PoleSets();
        x.line(183, 89, 1);
        x.line(3, 89, 1);
        check.good(x, "-16.95 is cut to -16", x.along(0, 3), -16);
        check.good(x, "16.95 is cut to 16", x.along(1, 3), 16);
        check.good(x, "-0.9 is cut to 0", x.along(0, 4), 0);
        check.good(x, "0.9 is cut to 0", x.along(1, 4), 0);
        PoleSets pole = Scenes.lies(30, 60, 0, 0, 0, 0);
        check.good(pole, "fabric(4): -124333.3 is cut", pole.fabric(4), -124333);
        check.good(pole, "fabric(3): 107424", pole.fabric(3), 107424);
        PoleSets mean = Scenes.lies(0, 3, 0, 0, 0, 0);
        check.good(mean, "set(0, 4): -53 by 3", mean.set(0, 4), -17);
    }

    private void roots() {
        check.sentence("a root is the greatest whole number whose square is no more.");
        PoleSets square = new PoleSets();
        square.cap(20);
        square.line(0, 5, 1);
        square.crack(0, 12, 76, 0);
        check.good(square, "the root of 1083 squared", square.of(0, 7), 1083);
        PoleSets less = new PoleSets();
        less.cap(20);
        less.line(75, 0, 1);
        less.crack(0, 24, 34, 0);
        check.good(less, "the root of 2837 squared less 1", less.of(0, 7), 2836);
        PoleSets most = Scenes.repeat(wide(), 60, 0, 0);
        check.good(most, "the greatest root: of 1200000000 squared, by 1000", most.set(0, 7), 1200000);
        PoleSets nought = Scenes.threes(0, 0);
        nought.line(0, 0, 9);
        nought.crack(1, 0, 0, 0);
        nought.crack(1, 0, 0, 9);
        check.good(nought, "the root of 0", nought.spacing(0, 1, 2), 0);
    }

    /** A level line along which flat cracks have the greatest weight there is. */
    private static PoleSets wide() {
        PoleSets x = new PoleSets();
        x.line(0, 0, 100000);
        x.cap(20);
        return x;
    }

    private void sines() {
        check.sentence("SINE of d degrees (0 to 180): 4000 times d times (180 - d), by 40,500 less d times (180 - d);");
        int[] degrees = {0, 1, 30, 89, 90, 91, 150, 179, 180};
        int[] sines = {0, 17, 500, 999, 1000, 999, 500, 17, 0};
        for (int i = 0; i < degrees.length; i++) {
            PoleSets x = new PoleSets();
            x.line(degrees[i], 0, 1);
            check.good(x, "SINE of " + degrees[i], x.along(0, 4), sines[i]);
        }
        PoleSets upright = new PoleSets();
        int[] plunges = {0, 1, 30, 89, 90};
        for (int i = 0; i < plunges.length; i++) {
            upright.line(0, plunges[i], 1);
            check.good(upright, "SINE of a PLUNGE of " + plunges[i], upright.along(i, 5), sines[i]);
        }
        for (int d = 0; d <= 180; d++) {
            PoleSets x = new PoleSets();
            x.line(d, 0, 1);
            check.due("SINE of " + d, x.along(0, 4), 4000 * d * (180 - d) / (40500 - d * (180 - d)));
        }
    }

    private void sinesThatGoRound() {
        check.sentence("of others by d less 360, and so on, into 0 to 359, above 180 that of d less 180 turned below 0.");
        int[] degrees = {181, 210, 269, 270, 271, 330, 359};
        int[] sines = {-17, -500, -999, -1000, -999, -500, -17};
        for (int i = 0; i < degrees.length; i++) {
            PoleSets x = new PoleSets();
            x.line(degrees[i], 0, 1);
            check.good(x, "SINE of " + degrees[i], x.along(0, 4), sines[i]);
        }
        PoleSets beyond = Scenes.lies(181, 90, 179, 30, 180, 30, 181, 30, 359, 30);
        check.good(beyond, "SINE of 359 (1 and 180 of the PLAIN one: 181)", beyond.of(0, 5), -17);
        check.good(beyond, "500 times SINE of 359", beyond.of(1, 5), -8);
        check.good(beyond, "500 times SINE of 360", beyond.of(2, 5), 0);
        check.good(beyond, "500 times SINE of 361", beyond.of(3, 5), 8);
        check.good(beyond, "500 times SINE of 539", beyond.of(4, 5), 8);
        PoleSets below = Scenes.threes(0, 0, 90, 90);
        check.good(below, "SINE of -90: the same as of 270", below.fold(0, 1, 0, -90), below.fold(1, 0, 0, 90));
        check.good(below, "SINE of -180 is 0", below.fold(0, 1, 0, -180), below.fold(0, 1, 0, 180));
    }

    private void cosines() {
        check.sentence("COSINE of d: SINE of d and 90.");
        int[] degrees = {0, 1, 60, 89, 90, 91, 180, 269, 270, 271, 359};
        int[] cosines = {1000, 999, 500, 17, 0, -17, -1000, -17, 0, 17, 999};
        for (int i = 0; i < degrees.length; i++) {
            PoleSets x = new PoleSets();
            x.line(degrees[i], 0, 1);
            check.good(x, "COSINE of " + degrees[i], x.along(0, 3), cosines[i]);
        }
        PoleSets beyond = Scenes.lies(179, 30, 180, 30, 181, 30, 359, 30);
        check.good(beyond, "500 times COSINE of 359", beyond.of(0, 4), 499);
        check.good(beyond, "500 times COSINE of 360", beyond.of(1, 4), 500);
        check.good(beyond, "500 times COSINE of 361", beyond.of(2, 4), 499);
        check.good(beyond, "500 times COSINE of 539", beyond.of(3, 4), -499);
    }

    private void lies() {
        check.sentence("A LIE: a DIRECTION (0 to 359) in which it dips by a DIP (0 to 90).");
        PoleSets x = Scenes.lies();
        int[][] taken = {{0, 0}, {359, 0}, {0, 90}, {359, 90}, {180, 45}};
        for (int i = 0; i < taken.length; i++) {
            check.good(x, "crack", x.crack(0, taken[i][0], taken[i][1], 0), i);
            check.good(x, "its DIRECTION", x.of(i, 1), taken[i][0]);
            check.good(x, "its DIP", x.of(i, 2), taken[i][1]);
            check.good(x, "thick", x.thick(taken[i][0], taken[i][1], 90), 1000 * (i + 1));
        }
        int[][] not = {{-1, 0}, {360, 0}, {0, -1}, {0, 91}, {Integer.MIN_VALUE, 0}, {0, Integer.MAX_VALUE}};
        for (int[] lie : not) {
            check.refused(x, "crack", x.crack(0, lie[0], lie[1], 0), 1);
            check.refused(x, "thick", x.thick(lie[0], lie[1], 90), 1);
            check.refused(x, "excess", x.excess(lie[0], lie[1], 90), 1);
            check.refused(x, "blind", x.blind(lie[0], lie[1], 90), 1);
        }
        check.good(x, "no more cracks", x.many(1), taken.length);
    }

    private void alike() {
        check.sentence("LIES are ALIKE if both numbers are; if both DIPS are 0; if both DIPS are 90 and the DIRECTIONS 180 apart.");
        alikeOrNot(1, 10, 45, 10, 45);
        alikeOrNot(2, 10, 45, 11, 45);
        alikeOrNot(2, 10, 45, 10, 46);
        alikeOrNot(1, 0, 0, 359, 0);
        alikeOrNot(1, 17, 0, 230, 0);
        alikeOrNot(2, 0, 1, 359, 1);
        alikeOrNot(2, 0, 0, 0, 1);
        alikeOrNot(1, 0, 90, 180, 90);
        alikeOrNot(1, 179, 90, 359, 90);
        alikeOrNot(2, 0, 90, 179, 90);
        alikeOrNot(2, 0, 90, 181, 90);
        alikeOrNot(2, 0, 90, 359, 90);
        alikeOrNot(2, 0, 89, 180, 89);
        alikeOrNot(2, 0, 90, 180, 89);
        alikeOrNot(2, 0, 0, 0, 90);
    }

    private void alikeOrNot(int lies, int direction, int dip, int direction2, int dip2) {
        String which = direction + ", " + dip + " and " + direction2 + ", " + dip2;
        PoleSets x = Scenes.lies(direction, dip, direction2, dip2);
        check.good(x, "LIES of " + which, x.many(2), lies);
        check.good(x, "ALIKE the first of " + which, x.of(0, 8), 3 - lies);
        check.good(x, "ALIKE the second of " + which, x.of(1, 8), 3 - lies);
    }

    private void plain() {
        check.sentence("PLAIN: of those ALIKE that with the least DIRECTION.");
        int[][] plain = {{0, 0, 0}, {359, 0, 0}, {359, 1, 35901}, {0, 90, 90}, {179, 90, 17990}, {180, 90, 90},
            {181, 90, 190}, {359, 90, 17990}, {180, 89, 18089}, {359, 89, 35989}};
        for (int[] each : plain) {
            PoleSets x = Scenes.threes(each[0], each[1]);
            check.good(x, "SEED of " + each[0] + ", " + each[1], x.set(0, 11), each[2]);
        }
        PoleSets x = Scenes.lies(180, 90);
        check.good(x, "the DIRECTION that was told", x.of(0, 1), 180);
    }

    private void poles() {
        check.sentence("The POLE of all ALIKE ones is, by the PLAIN one, x = SINE(DIP) times COSINE(DIRECTION and 180) by 1000,"
            + " y likewise with SINE(DIRECTION and 180), z = COSINE(DIP).");
        int[][] poles = {{0, 0, 0, 0, 1000}, {359, 0, 0, 0, 1000}, {0, 90, -1000, 0, 0}, {180, 90, -1000, 0, 0},
            {90, 90, 0, -1000, 0}, {270, 90, 0, -1000, 0}, {179, 90, 999, -17, 0}, {359, 90, 999, -17, 0},
            {180, 45, 705, 0, 705}, {0, 45, -705, 0, 705}, {270, 30, 0, 500, 864}, {359, 1, -16, 0, 999},
            {180, 89, 999, 0, 17}, {274, 1, -1, 16, 999}};
        for (int[] each : poles) {
            PoleSets x = Scenes.lies(each[0], each[1]);
            for (int i = 0; i < 3; i++) {
                check.good(x, "POLE of " + each[0] + ", " + each[1] + ": " + i, x.of(0, 4 + i), each[2 + i]);
            }
        }
    }

    private void lines() {
        check.sentence("A LINE (0 to 5, as they were told): TREND 0 to 359, PLUNGE 0 to 90, LENGTH 1 to 100,000;");
        int[][] taken = {{0, 0, 1}, {359, 0, 1}, {0, 90, 1}, {0, 0, 100000}, {359, 90, 100000}, {180, 45, 2}};
        PoleSets x = new PoleSets();
        check.refused(x, "along(0, 0) before the first", x.along(0, 0), 2);
        for (int i = 0; i < taken.length; i++) {
            int[][] not = {{-1, 0, 1}, {360, 0, 1}, {0, -1, 1}, {0, 91, 1}, {0, 0, 0}, {0, 0, 100001}};
            check.refused(x, "line", x.line(not[i][0], not[i][1], not[i][2]), 1);
            check.good(x, "line", x.line(taken[i][0], taken[i][1], taken[i][2]), i);
        }
        for (int i = 0; i < taken.length; i++) {
            for (int what = 0; what < 3; what++) {
                check.good(x, "along(" + i + ", " + what + ")", x.along(i, what), taken[i][what]);
            }
        }
        check.refused(x, "a seventh", x.line(0, 0, 1), 3);
        check.refused(x, "along(6, 0)", x.along(6, 0), 2);
        check.good(x, "many(0)", x.many(0), 6);
    }

    private void arrows() {
        check.sentence("its ARROW is x = COSINE(PLUNGE) times COSINE(TREND) by 1000, y with SINE(TREND), z = SINE(PLUNGE).");
        int[][] arrows = {{0, 0, 1000, 0, 0}, {90, 0, 0, 1000, 0}, {180, 0, -1000, 0, 0}, {270, 0, 0, -1000, 0},
            {359, 0, 999, -17, 0}, {0, 90, 0, 0, 1000}, {359, 90, 0, 0, 1000}, {210, 30, -746, -432, 500},
            {94, 89, -1, 16, 999}};
        for (int[] each : arrows) {
            PoleSets x = new PoleSets();
            x.line(each[0], each[1], 1);
            for (int i = 0; i < 3; i++) {
                check.good(x, "ARROW of " + each[0] + ", " + each[1] + ": " + i, x.along(0, 3 + i), each[2 + i]);
            }
        }
    }

    private void near() {
        check.aside("DOT of two vectors: x x and y y and z z together; SQUARE of one: DOT with itself.");
        check.sentence("They are NEAR by an angle (0 to 90): DOT squared times 1,000,000 is no less than COSINE(angle) squared"
            + " times both SQUARES.");
        PoleSets x = Scenes.lies(0, 45, 90, 45, 0, 45, 180, 45);
        check.good(x, "705 to the fourth is a quarter of both squares: near(0, 60)", x.near(0, 60), 3);
        check.good(x, "near(0, 59)", x.near(0, 59), 2);
        check.good(x, "near(0, 0)", x.near(0, 0), 2);
        check.good(x, "near(0, 89): DOT is 0 of one", x.near(0, 89), 3);
        check.good(x, "near(0, 90)", x.near(0, 90), 4);
        check.refused(x, "near(0, -1)", x.near(0, -1), 1);
        check.refused(x, "near(0, 91)", x.near(0, 91), 1);
        check.good(x, "thick(0, 45, 60)", x.thick(0, 45, 60), 3000);
        check.good(x, "thick(0, 45, 59)", x.thick(0, 45, 59), 2000);
        PoleSets away = Scenes.lies(5, 80, 185, 80);
        check.good(away, "a DOT below 0: near(0, 21)", away.near(0, 21), 2);
        check.good(away, "a DOT below 0: near(0, 20)", away.near(0, 20), 1);
    }

    private void angles() {
        check.sentence("ANGLE of two: the least by which they are NEAR.");
        PoleSets x = Scenes.lies(0, 0, 0, 1, 0, 2, 0, 3, 0, 45, 90, 45, 0, 90, 180, 45, 77, 0);
        check.good(x, "angle(0, 0)", x.angle(0, 0), 0);
        check.good(x, "angle(0, 8): both flat", x.angle(0, 8), 0);
        check.good(x, "angle(0, 1)", x.angle(0, 1), 1);
        check.good(x, "angle(0, 2): COSINE of 2 is that of 1", x.angle(0, 2), 1);
        check.good(x, "angle(0, 3)", x.angle(0, 3), 3);
        check.good(x, "angle(4, 5)", x.angle(4, 5), 60);
        check.good(x, "angle(5, 4)", x.angle(5, 4), 60);
        check.good(x, "angle(0, 6)", x.angle(0, 6), 90);
        check.good(x, "angle(4, 7): DOT 0", x.angle(4, 7), 90);
    }

    private void cracks() {
        check.sentence("CRACKS (0 and on, as they were told; at most 60): a LINE, a LIE, AT (0 to LENGTH of the LINE).");
        PoleSets x = new PoleSets();
        x.line(0, 0, 1);
        x.line(0, 0, 100000);
        check.refused(x, "of(0, 0) before the first", x.of(0, 0), 2);
        int[][] not = {{0, -1}, {0, 2}, {1, -1}, {1, 100001}, {0, 100000}, {1, Integer.MIN_VALUE}, {1, Integer.MAX_VALUE}};
        for (int[] each : not) {
            check.refused(x, "AT " + each[1] + " on " + each[0], x.crack(each[0], 7, 8, each[1]), 1);
        }
        int[][] taken = {{0, 0}, {0, 1}, {1, 0}, {1, 100000}};
        for (int i = 0; i < 60; i++) {
            int[] each = taken[i % 4];
            check.good(x, "AT " + each[1] + " on " + each[0], x.crack(each[0], i, 8, each[1]), i);
        }
        check.refused(x, "one more", x.crack(0, 7, 8, 0), 3);
        check.refused(x, "of(60, 0)", x.of(60, 0), 2);
        for (int i = 0; i < 60; i++) {
            check.due("of(" + i + ", 0)", x.of(i, 0), taken[i % 4][0]);
            check.due("of(" + i + ", 1)", x.of(i, 1), i);
            check.due("of(" + i + ", 3)", x.of(i, 3), taken[i % 4][1]);
        }
        check.good(x, "many(1)", x.many(1), 60);
    }

    private void weights() {
        check.sentence("WEIGHT of one: the root of 1,000,000 times SQUARE of its POLE times SQUARE of the ARROW by (DOT of both)"
            + " squared;");
        PoleSets x = by(10, 0, 20);
        x.crack(0, 9, 3, 0);
        x.crack(0, 172, 3, 0);
        x.crack(0, 50, 4, 0);
        x.crack(0, 9, 88, 0);
        check.good(x, "of(0, 7)", x.of(0, 7), 19000);
        check.good(x, "of(1, 7)", x.of(1, 7), 19999);
        check.good(x, "of(2, 7)", x.of(2, 7), 18999);
        check.good(x, "along the POLE, the least there is", x.of(3, 7), 1000);
        check.sentence("CAP times 1000, if that is less, or DOT is 0.");
        int[] due = {19000, 19000, 18999, 1000};
        x.cap(19);
        for (int i = 0; i < due.length; i++) {
            check.good(x, "by CAP 19: of(" + i + ", 7)", x.of(i, 7), due[i]);
        }
        PoleSets above = by(30, 60, 20);
        above.crack(0, 93, 72, 0);
        above.crack(0, 7, 65, 0);
        check.good(above, "19001 by CAP 20", above.of(0, 7), 19001);
        check.good(above, "20001 by CAP 20", above.of(1, 7), 20000);
        above.cap(19);
        check.good(above, "19001 by CAP 19", above.of(0, 7), 19000);
        PoleSets square = by(0, 0, 20);
        square.crack(0, 90, 90, 0);
        square.crack(0, 0, 0, 0);
        for (int cap : new int[] {20, 7, 1}) {
            square.cap(cap);
            check.good(square, "DOT 0 of an upright one", square.of(0, 7), cap * 1000);
            check.good(square, "DOT 0 of a flat one", square.of(1, 7), cap * 1000);
        }
    }

    private static PoleSets by(int trend, int plunge, int cap) {
        PoleSets x = new PoleSets();
        x.line(trend, plunge, 9);
        x.cap(cap);
        return x;
    }

    private void caps() {
        check.sentence("CAP 1 to 20 (at first 1).");
        PoleSets x = new PoleSets();
        x.line(0, 0, 9);
        x.crack(0, 0, 0, 0);
        check.good(x, "a weight at first", x.of(0, 7), 1000);
        check.refused(x, "cap(0)", x.cap(0), 1);
        check.refused(x, "cap(21)", x.cap(21), 1);
        check.refused(x, "cap(-1)", x.cap(-1), 1);
        check.good(x, "a weight after refused ones", x.of(0, 7), 1000);
        check.good(x, "cap(20)", x.cap(20), 1);
        check.good(x, "a weight by 20", x.of(0, 7), 20000);
        check.good(x, "cap(1)", x.cap(1), 20);
        check.good(x, "a weight by 1", x.of(0, 7), 1000);
    }
}
