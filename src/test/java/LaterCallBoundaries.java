/** Promises 26 to 46, one by one: nothing told, as much as may be, the first and the last, what is refused. */
final class LaterCallBoundaries {
    private final Check check;

    LaterCallBoundaries(Check check) {
        this.check = check;
    }

    void look() {
        settled();
        settledIn();
        settledLie();
        thick();
        excess();
        rose();
        fabric();
        axis();
        nextLine();
        blind();
        peak();
        spacing();
        meets();
        block();
        wedge();
        risk();
        safety();
        safest();
        steepest();
        fold();
        unfold();
    }

    // ---- settled, thick

    private void settled() {
        check.sentence("`int settled(int reach, int what)`: SETTLED with a REACH, what 0: ROUNDS, 1: CRACKS that are elsewhere than in their"
            + " SETS (STRAYS that are in one, too), 2: CRACKS that are in none (1).");
        PoleSets x = Scenes.more(Scenes.threes(0, 0), 0, 18, 0, 90);
        int[][] due = {{17, 1, 0, 2}, {18, 2, 1, 1}, {89, 3, 2, 0}, {90, 2, 2, 0}, {1, 1, 0, 2}};
        for (int[] each : due) {
            for (int what = 0; what <= 2; what++) {
                check.good(x, "settled(" + each[0] + ", " + what + ")", x.settled(each[0], what), each[1 + what]);
            }
        }
        check.refused(x, "settled(90, -1)", x.settled(90, -1), 1);
        check.refused(x, "settled(90, 3)", x.settled(90, 3), 1);
        check.refused(x, "settled(0, 0)", x.settled(0, 0), 1);
        check.refused(x, "settled(91, 0)", x.settled(91, 0), 1);
        check.good(x, "the SETS stay as they are", x.set(0, 0), 3);
        PoleSets out = Scenes.lies(0, 40, 0, 50);
        out.link(10, 2);
        check.good(out, "members that are in none", out.settled(1, 1), 2);
        check.good(out, "members that are in none", out.settled(1, 2), 2);
        PoleSets full = Scenes.full();
        check.good(full, "thirty SETS, as they are", full.settled(1, 1), 0);
    }

    private void settledIn() {
        check.sentence("`int settledIn(int reach, int crack)`: The SET in which a CRACK is, SETTLED with a REACH (NONE: in none) (1; 2);"
            + " STATUS tells NONE from -1.");
        PoleSets e = new PoleSets();
        check.refused(e, "of none", e.settledIn(1, 0), 2);
        check.refused(e, "of none, REACH 0", e.settledIn(0, 0), 1);
        PoleSets x = Scenes.more(Scenes.threes(0, 0, 90, 90), 0, 18, 0, 90);
        check.good(x, "in none by REACH 17", x.settledIn(17, 6), -1);
        check.good(x, "in the first by REACH 18", x.settledIn(18, 6), 0);
        check.good(x, "in its own", x.settledIn(1, 5), 1);
        check.good(x, "90 from both", x.settledIn(17, 7), -1);
        check.refused(x, "settledIn(91, 0)", x.settledIn(91, 0), 1);
        check.refused(x, "settledIn(91, 8)", x.settledIn(91, 8), 1);
        check.refused(x, "settledIn(1, 8)", x.settledIn(1, 8), 2);
        check.refused(x, "settledIn(1, -1)", x.settledIn(1, -1), 2);
    }

    private void settledLie() {
        check.sentence("`int settledLie(int reach, int set)`: 100 times the DIRECTION and the DIP, together, of a SET's MEAN, SETTLED with a"
            + " REACH (1; 2).");
        PoleSets e = new PoleSets();
        check.refused(e, "of none", e.settledLie(1, 0), 2);
        check.refused(e, "of none, REACH 0", e.settledLie(0, 0), 1);
        PoleSets x = Scenes.threes(270, 30, 17, 0, 180, 90);
        check.good(x, "flat", x.settledLie(1, 0), 0);
        check.good(x, "upright, PLAIN", x.settledLie(1, 1), 90);
        check.good(x, "another", x.settledLie(1, 2), 27030);
        check.good(x, "another", x.settledLie(90, 2), 27030);
        check.refused(x, "settledLie(91, 0)", x.settledLie(91, 0), 1);
        check.refused(x, "settledLie(0, 3)", x.settledLie(0, 3), 1);
        check.refused(x, "settledLie(1, 3)", x.settledLie(1, 3), 2);
        check.refused(x, "settledLie(1, -1)", x.settledLie(1, -1), 2);
    }

    private void thick() {
        check.sentence("`int thick(int direction, int dip, int angle)`: How THICK it is at a LIE by an angle (0 to 90) (1).");
        PoleSets e = new PoleSets();
        check.good(e, "of none", e.thick(359, 90, 90), 0);
        PoleSets x = Scenes.lies(0, 45, 90, 45);
        check.good(x, "thick(0, 45, 0)", x.thick(0, 45, 0), 1000);
        check.good(x, "thick(0, 45, 59)", x.thick(0, 45, 59), 1000);
        check.good(x, "thick(0, 45, 60)", x.thick(0, 45, 60), 2000);
        check.good(x, "thick(180, 45, 89)", x.thick(180, 45, 89), 1000);
        check.good(x, "thick(180, 45, 90)", x.thick(180, 45, 90), 2000);
        check.refused(x, "thick(360, 45, 0)", x.thick(360, 45, 0), 1);
        check.refused(x, "thick(-1, 45, 0)", x.thick(-1, 45, 0), 1);
        check.refused(x, "thick(0, 91, 0)", x.thick(0, 91, 0), 1);
        check.refused(x, "thick(0, -1, 0)", x.thick(0, -1, 0), 1);
        check.refused(x, "thick(0, 45, 91)", x.thick(0, 45, 91), 1);
        check.refused(x, "thick(0, 45, -1)", x.thick(0, 45, -1), 1);
    }

    private void excess() {
        check.sentence("`int excess(int direction, int dip, int angle)`: How THICK it is at a LIE by an angle (0 to 90), less MASS of all"
            + " CRACKS times (1000 less COSINE(angle)) by 1000 (1); STATUS tells NONE from -1.");
        PoleSets e = new PoleSets();
        check.good(e, "of none", e.excess(359, 90, 90), 0);
        PoleSets x = Scenes.lies(0, 45);
        check.good(x, "by 0: all of it", x.excess(0, 45, 0), 1000);
        check.good(x, "by 1: 1 less", x.excess(0, 45, 1), 999);
        check.good(x, "by 90: as much as evenly", x.excess(0, 45, 90), 0);
        check.good(x, "elsewhere by 0", x.excess(180, 45, 0), 0);
        check.good(x, "elsewhere by 1: -1, and no NONE", x.excess(180, 45, 1), -1);
        check.good(x, "elsewhere by 89", x.excess(180, 45, 89), -983);
        check.good(x, "elsewhere by 90", x.excess(180, 45, 90), 0);
        check.refused(x, "excess(0, 45, 91)", x.excess(0, 45, 91), 1);
        check.refused(x, "excess(0, 45, -1)", x.excess(0, 45, -1), 1);
        PoleSets most = heavy();
        check.good(most, "the most", most.excess(0, 0, 0), 1200000);
        check.good(most, "the least", most.excess(0, 90, 89), -1200 * 983);
    }

    /** Sixty flat ones by a level line, 20000 each. */
    private static PoleSets heavy() {
        PoleSets x = new PoleSets();
        x.line(0, 0, 9);
        x.cap(20);
        return Scenes.repeat(x, 60, 0, 0);
    }

    private void rose() {
        check.sentence("`int rose(int petal, int what)`: CRACKS whose STRIKE (DIRECTION of the PLAIN LIE and 90, mod 180) lies from 10 times a"
            + " number on (0 to 17), less than 10 more, those with DIP 0 left out, what 0: how many, 1: their WEIGHTS (1).");
        int[][] strikes = {{0, 45, 9}, {9, 45, 9}, {10, 45, 10}, {89, 45, 17}, {90, 45, 0}, {99, 45, 0}, {100, 45, 1},
            {179, 45, 8}, {180, 45, 9}, {269, 45, 17}, {270, 45, 0}, {359, 45, 8}, {0, 90, 9}, {180, 90, 9}, {359, 90, 8},
            {359, 1, 8}, {80, 1, 17}, {79, 1, 16}};
        for (int[] each : strikes) {
            PoleSets x = Scenes.lies(each[0], each[1]);
            for (int petal = 0; petal <= 17; petal++) {
                int due = petal == each[2] ? 1 : 0;
                check.good(x, each[0] + ", " + each[1] + ": rose(" + petal + ", 0)", x.rose(petal, 0), due);
                check.due(each[0] + ", " + each[1] + ": rose(" + petal + ", 1)", x.rose(petal, 1), 1000 * due);
            }
        }
        PoleSets flat = heavy();
        for (int petal = 0; petal <= 17; petal++) {
            check.good(flat, "DIP 0 left out", flat.rose(petal, 0), 0);
            check.good(flat, "DIP 0 left out", flat.rose(petal, 1), 0);
        }
        check.refused(flat, "rose(-1, 0)", flat.rose(-1, 0), 1);
        check.refused(flat, "rose(18, 0)", flat.rose(18, 0), 1);
        check.refused(flat, "rose(0, -1)", flat.rose(0, -1), 1);
        check.refused(flat, "rose(0, 2)", flat.rose(0, 2), 1);
        PoleSets e = new PoleSets();
        check.good(e, "of none", e.rose(17, 1), 0);
        PoleSets full = Scenes.repeat(Scenes.lies(), 60, 0, 90);
        check.good(full, "sixty", full.rose(9, 0), 60);
    }

    private void fabric() {
        check.sentence("`int fabric(int what)`: FABRIC, what 0 to 5: xx, yy, zz, xy, xz, yz (1; 5: no CRACKS); STATUS tells NONE from -1.");
        PoleSets e = Scenes.lies();
        check.refused(e, "fabric(0) of none", e.fabric(0), 5);
        check.refused(e, "fabric(5) of none", e.fabric(5), 5);
        check.refused(e, "fabric(6) of none", e.fabric(6), 1);
        check.refused(e, "fabric(-1) of none", e.fabric(-1), 1);
        PoleSets x = Scenes.repeat(Scenes.lies(274, 1), 15, 0, 0);
        int[] due = {0, 16, (999 * 999 + 15000000) / 16, -1, -999 / 16, 16 * 999 / 16};
        for (int what = 0; what <= 5; what++) {
            check.good(x, "fabric(" + what + ")", x.fabric(what), due[what]);
        }
        check.refused(x, "fabric(6)", x.fabric(6), 1);
        check.refused(x, "fabric(-1)", x.fabric(-1), 1);
        x.drop(0);
        check.good(x, "one fewer", x.fabric(3), 0);
        for (int i = 0; i < 15; i++) {
            x.drop(0);
        }
        check.refused(x, "none again", x.fabric(3), 5);
    }

    private void axis() {
        check.sentence("`int axis(boolean most, int what)`: GIRDLE (CLUSTER, if most), what 0: DIRECTION, 1: DIP (of the PLAIN LIE) (1; 5: no"
            + " CRACKS).");
        PoleSets e = Scenes.lies();
        check.refused(e, "of none", e.axis(true, 0), 5);
        check.refused(e, "of none", e.axis(false, 1), 5);
        check.refused(e, "of none, what 2", e.axis(false, 2), 1);
        check.refused(e, "of none, what -1", e.axis(true, -1), 1);
        PoleSets x = Scenes.lies(180, 90);
        check.good(x, "CLUSTER", x.axis(true, 0), 0);
        check.good(x, "CLUSTER", x.axis(true, 1), 90);
        check.good(x, "GIRDLE", x.axis(false, 0), 0);
        check.good(x, "GIRDLE", x.axis(false, 1), 0);
        Scenes.more(x, 90, 0);
        check.good(x, "GIRDLE of two", x.axis(false, 0), 90);
        check.good(x, "GIRDLE of two", x.axis(false, 1), 90);
        check.good(x, "CLUSTER of two that are as much: the first", x.axis(true, 1), 0);
        check.refused(x, "what 2", x.axis(true, 2), 1);
    }

    private void nextLine() {
        check.sentence("`int nextLine(int what)`: NEXT LINE, what 0: TREND, 1: PLUNGE, 2: WEIGHTS (1; 5: no CRACKS).");
        PoleSets e = Scenes.lies();
        check.refused(e, "of none", e.nextLine(0), 5);
        check.refused(e, "of none, what 3", e.nextLine(3), 1);
        check.refused(e, "of none, what -1", e.nextLine(-1), 1);
        PoleSets x = heavy();
        int[] due = {0, 90, 60000};
        int[] one = {0, 0, 60000};
        for (int what = 0; what <= 2; what++) {
            check.good(x, "nextLine(" + what + ")", x.nextLine(what), due[what]);
        }
        x.cap(1);
        for (int what = 0; what <= 2; what++) {
            check.good(x, "by CAP 1: nextLine(" + what + ")", x.nextLine(what), one[what]);
        }
        check.refused(x, "nextLine(3)", x.nextLine(3), 1);
        check.good(x, "no LINE more", x.many(0), 1);
    }

    private void blind() {
        check.sentence("`int blind(int direction, int dip, int angle)`: LINES (bits) to which planes of a LIE lie blind by an angle (0 to 90):"
            + " its POLE is not NEAR their ARROWS by 90 less the angle (1).");
        PoleSets e = new PoleSets();
        check.good(e, "no LINES", e.blind(0, 0, 90), 0);
        PoleSets x = new PoleSets();
        x.line(0, 90, 1);
        x.line(0, 0, 1);
        x.line(90, 0, 1);
        x.line(0, 45, 1);
        x.line(180, 0, 1);
        x.line(0, 89, 1);
        check.good(x, "by 0: to none", x.blind(0, 0, 0), 0);
        check.good(x, "by 1: to level ones", x.blind(0, 0, 1), 2 + 4 + 16);
        check.good(x, "by 45", x.blind(0, 0, 45), 2 + 4 + 16);
        check.good(x, "by 46", x.blind(0, 0, 46), 2 + 4 + 8 + 16);
        check.good(x, "by 89", x.blind(0, 0, 89), 2 + 4 + 8 + 16);
        check.good(x, "by 90: to all but the one along the POLE", x.blind(359, 0, 90), 2 + 4 + 8 + 16 + 32);
        check.good(x, "by 90: to all", x.blind(0, 30, 90), 63);
        check.good(x, "upright, by 90: both along the POLE", x.blind(180, 90, 90), 1 + 4 + 8 + 32);
        check.refused(x, "blind(0, 0, -1)", x.blind(0, 0, -1), 1);
        check.refused(x, "blind(0, 0, 91)", x.blind(0, 0, 91), 1);
        check.refused(x, "blind(360, 0, 0)", x.blind(360, 0, 0), 1);
        check.refused(x, "blind(0, 91, 0)", x.blind(0, 91, 0), 1);
    }

    private void peak() {
        check.sentence("`int peak(int angle, int what)`: PEAK by an angle (0 to 90), what 0: its DIRECTION, 1: its DIP, 2: how THICK it is (1;"
            + " 5: no CRACKS).");
        PoleSets e = Scenes.lies();
        check.refused(e, "of none", e.peak(0, 0), 5);
        check.refused(e, "of none, what 3", e.peak(0, 3), 1);
        check.refused(e, "of none, angle 91", e.peak(91, 0), 1);
        check.refused(e, "of none, angle -1", e.peak(-1, 0), 1);
        PoleSets x = Scenes.lies(350, 80, 5, 5);
        int[][] due = {{0, 350, 80, 1000}, {90, 0, 0, 2000}};
        for (int[] each : due) {
            for (int what = 0; what <= 2; what++) {
                check.good(x, "peak(" + each[0] + ", " + what + ")", x.peak(each[0], what), each[1 + what]);
            }
        }
        check.refused(x, "peak(0, -1)", x.peak(0, -1), 1);
        check.refused(x, "peak(0, 3)", x.peak(0, 3), 1);
        check.good(heavy(), "sixty", heavy().peak(0, 2), 1200000);
    }

    // ---- spacing, blocks

    private void spacing() {
        check.sentence("`int spacing(int set, int line, int what)`: SPACING of a SET on a LINE, what 0: GAPS, 1: APPARENT, 2: TRUE (1; 2; 5:"
            + " fewer than two members there).");
        PoleSets e = new PoleSets();
        check.refused(e, "of none", e.spacing(0, 0, 0), 2);
        check.refused(e, "of none, what 3", e.spacing(0, 0, 3), 1);
        PoleSets x = Scenes.threes(0, 0);
        x.line(0, 90, 100000);
        for (int what = 0; what <= 2; what++) {
            check.refused(x, "none there", x.spacing(0, 1, what), 5);
        }
        x.crack(1, 0, 0, 100000);
        for (int what = 0; what <= 2; what++) {
            check.refused(x, "one there", x.spacing(0, 1, what), 5);
        }
        x.crack(1, 90, 90, 0);
        check.refused(x, "one there, and one of no SET", x.spacing(0, 1, 0), 5);
        x.crack(1, 0, 0, 0);
        int[] due = {1, 100000, 100000};
        for (int what = 0; what <= 2; what++) {
            check.good(x, "two there", x.spacing(0, 1, what), due[what]);
        }
        check.good(x, "three at one place", x.spacing(0, 0, 0), 2);
        check.good(x, "three at one place", x.spacing(0, 0, 1), 0);
        check.refused(x, "spacing(0, 0, -1)", x.spacing(0, 0, -1), 1);
        check.refused(x, "spacing(1, 0, 0)", x.spacing(1, 0, 0), 2);
        check.refused(x, "spacing(0, 2, 0)", x.spacing(0, 2, 0), 2);
        check.refused(x, "spacing(0, 2, 3)", x.spacing(0, 2, 3), 1);
        check.good(heavy(), "sixty at one place", heavy().spacing(0, 0, 0), 59);
    }

    private void meets() {
        check.sentence("`int meets(int set, int line, int trend, int plunge, int length)`: How many CRACKS of a SET a LINE of a TREND, PLUNGE,"
            + " LENGTH would meet by its SPACING on a LINE: LENGTH times c of that one's ARROW and MEAN, by 1000, by TRUE (1; 2; 5: fewer"
            + " than two members there, TRUE is 0).");
        PoleSets e = new PoleSets();
        check.refused(e, "of none", e.meets(0, 0, 0, 0, 1), 2);
        check.refused(e, "of none, LENGTH 0", e.meets(0, 0, 0, 0, 0), 1);
        PoleSets x = Scenes.threes(0, 0);
        x.line(0, 90, 100);
        check.refused(x, "none there", x.meets(0, 1, 0, 90, 1), 5);
        x.crack(1, 0, 0, 0);
        check.refused(x, "one there", x.meets(0, 1, 0, 90, 1), 5);
        x.crack(1, 0, 0, 0);
        check.refused(x, "two there at one place: TRUE is 0", x.meets(0, 1, 0, 90, 1), 5);
        x.crack(1, 0, 0, 1);
        check.refused(x, "APPARENT 1 by 2: TRUE is 0", x.meets(0, 1, 0, 90, 1), 5);
        x.crack(1, 0, 0, 3);
        check.good(x, "TRUE is 1", x.spacing(0, 1, 2), 1);
        check.good(x, "the longest", x.meets(0, 1, 359, 90, 100000), 100000);
        check.good(x, "the shortest", x.meets(0, 1, 0, 90, 1), 1);
        check.good(x, "along the planes", x.meets(0, 1, 0, 0, 100000), 0);
        check.good(x, "1000 by 1, 90 less 1 from them", x.meets(0, 1, 0, 1, 1000), 17);
        check.refused(x, "TREND 360", x.meets(0, 1, 360, 0, 1), 1);
        check.refused(x, "PLUNGE 91", x.meets(0, 1, 0, 91, 1), 1);
        check.refused(x, "LENGTH 100001", x.meets(0, 1, 0, 0, 100001), 1);
        check.refused(x, "no such SET", x.meets(1, 1, 0, 0, 1), 2);
        check.refused(x, "no such LINE", x.meets(0, 2, 0, 0, 1), 2);
    }

    private void block() {
        check.sentence("`long block(int a, int b, int c, int one, int two, int three)`: BLOCK of three SETS (unlike ones) with lengths (1 to"
            + " 100,000 each) (1; 2; 5: V is 0).");
        PoleSets e = new PoleSets();
        check.refused(e, "of none", e.block(0, 1, 2, 1, 1, 1), 2);
        check.refused(e, "of none, a length of 0", e.block(0, 1, 2, 1, 1, 0), 1);
        PoleSets x = Scenes.threes(0, 0, 0, 90, 90, 90);
        check.good(x, "the least", x.block(0, 1, 2, 1, 1, 1), 1);
        check.good(x, "the most", x.block(0, 1, 2, 100000, 100000, 100000), 1000000000000000L);
        check.refused(x, "one is 100001", x.block(0, 1, 2, 100001, 1, 1), 1);
        check.refused(x, "two is 100001", x.block(0, 1, 2, 1, 100001, 1), 1);
        check.refused(x, "three is 100001", x.block(0, 1, 2, 1, 1, 100001), 1);
        check.refused(x, "one is 0", x.block(0, 1, 2, 0, 1, 1), 1);
        check.refused(x, "two is 0", x.block(0, 1, 2, 1, 0, 1), 1);
        check.refused(x, "a and b are one", x.block(0, 0, 2, 1, 1, 1), 2);
        check.refused(x, "a and c are one", x.block(0, 1, 0, 1, 1, 1), 2);
        check.refused(x, "b and c are one", x.block(0, 2, 2, 1, 1, 1), 2);
        check.refused(x, "no such a", x.block(3, 1, 2, 1, 1, 1), 2);
        check.refused(x, "no such b", x.block(0, 3, 2, 1, 1, 1), 2);
        check.refused(x, "no such c", x.block(0, 1, -1, 1, 1, 1), 2);
        PoleSets flat = Scenes.threes(0, 0, 0, 30, 0, 60);
        check.refused(flat, "V is 0", flat.block(0, 1, 2, 1, 1, 1), 5);
        PoleSets thin = Scenes.threes(0, 0, 0, 90, 1, 90);
        thin.link(1, 3);
        check.refused(thin, "two that hang together", thin.block(0, 1, 2, 1, 1, 1), 2);
        PoleSets narrow = Scenes.threes(0, 0, 0, 90, 3, 90);
        narrow.link(2, 3);
        check.good(narrow, "V is 53", narrow.block(0, 1, 2, 100000, 100000, 100000), 1000000000000000000L / 53);
    }

    // ---- wedges, slopes

    private void wedge() {
        check.sentence("`int wedge(int set, int other, int what)`: WEDGE of two SETS, what 0: TREND, 1: PLUNGE, 2 to 4: x, y, z (1; 2; 5);"
            + " STATUS tells NONE from -1.");
        PoleSets e = new PoleSets();
        check.refused(e, "of none", e.wedge(0, 1, 0), 2);
        check.refused(e, "of none, what 5", e.wedge(0, 1, 5), 1);
        PoleSets x = Scenes.threes(25, 29, 170, 53);
        check.good(x, "an x of -1", x.wedge(0, 1, 2), -1);
        check.good(x, "an x of -1", x.wedge(1, 0, 2), -1);
        check.good(x, "its y", x.wedge(0, 1, 3), 947);
        check.good(x, "its z", x.wedge(0, 1, 4), 220);
        PoleSets y = Scenes.threes(185, 35, 257, 72);
        check.good(y, "a y of -1", y.wedge(0, 1, 3), -1);
        check.refused(x, "wedge(0, 1, -1)", x.wedge(0, 1, -1), 1);
        check.refused(x, "wedge(0, 1, 5)", x.wedge(0, 1, 5), 1);
        check.refused(x, "two that are one", x.wedge(0, 0, 0), 2);
        check.refused(x, "two that are one, what 5", x.wedge(0, 0, 5), 1);
        check.refused(x, "no such SET", x.wedge(0, 2, 0), 2);
        check.refused(x, "no such SET", x.wedge(-1, 0, 0), 2);
        PoleSets full = Scenes.full();
        check.good(full, "the last two", full.wedge(28, 29, 1), full.wedge(29, 28, 1));
    }

    private void risk() {
        check.sentence("`int risk(int what)`: Of the SLOPE, what 0: SETS that SLIDE, as bits, 1: that TOPPLE, as bits, 2: WEDGES that SLIDE, how"
            + " many, 3: the first couple of SETS whose WEDGE does, 100 times the lower and the other one (1; 5 of 3).");
        PoleSets e = new PoleSets();
        for (int what = 0; what <= 2; what++) {
            check.good(e, "of none: " + what, e.risk(what), 0);
        }
        check.refused(e, "of none: the first couple", e.risk(3), 5);
        check.refused(e, "risk(-1)", e.risk(-1), 1);
        check.refused(e, "risk(4)", e.risk(4), 1);
        PoleSets first = Scenes.threes(45, 60, 315, 60);
        check.good(first, "the first couple there can be", first.risk(3), 1);
        PoleSets last = Scenes.lies();
        last.link(1, 2);
        for (int i = 0; i < 28; i++) {
            Scenes.repeat(last, 2, 13 * (i % 4), 12 + i / 4 * 4);
        }
        Scenes.repeat(last, 2, 45, 60);
        Scenes.repeat(last, 2, 315, 60);
        last.slope(0, 60, 40, 0);
        check.good(last, "thirty SETS", last.many(3), 30);
        check.good(last, "the last couple there can be", last.risk(3), 2829);
        check.good(last, "no other", last.risk(2), 1);
    }

    private void safety() {
        check.sentence("`int safety(int set)`: SAFETY of a SET (2; 5: its DIP is 0).");
        PoleSets e = new PoleSets();
        check.refused(e, "of none", e.safety(0), 2);
        PoleSets apart = Scenes.threes(0, 0, 0, 30, 0, 90);
        check.refused(apart, "its DIP is 0", apart.safety(0), 5);
        check.good(apart, "DIP 30, FRICTION 30", apart.safety(1), 100);
        check.good(apart, "DIP 90", apart.safety(2), 0);
        check.refused(apart, "safety(3)", apart.safety(3), 2);
        check.refused(apart, "safety(-1)", apart.safety(-1), 2);
        PoleSets least = Scenes.threes(0, 2);
        check.good(least, "DIP 2", least.safety(0), 100 * 500 * 999 / (864 * 35));
        PoleSets none = Scenes.threes(0, 1);
        check.refused(none, "a LIE of 1 whose MEAN's is 0", none.safety(0), 5);
    }

    private void safest() {
        check.sentence("`int safest(int what)`: The DIRECTION (0, 10 .. 350) by which, the SLOPE being else as it is, the fewest SETS SLIDE,"
            + " TOPPLE, WEDGES SLIDE, all together, the first (what 0), how many (1) (1).");
        PoleSets e = new PoleSets();
        check.good(e, "of none", e.safest(0), 0);
        check.good(e, "of none", e.safest(1), 0);
        check.refused(e, "safest(-1)", e.safest(-1), 1);
        check.refused(e, "safest(2)", e.safest(2), 1);
        PoleSets last = Scenes.threes(70, 60, 140, 70, 240, 60);
        last.slope(0, 90, 0, 30);
        check.good(last, "the last there is", last.safest(0), 350);
        check.good(last, "the last there is", last.safest(1), 0);
        PoleSets some = Scenes.threes(180, 60, 110, 40, 290, 40, 220, 30);
        some.slope(17, 90, 0, 45);
        check.good(some, "the last, and one does", some.safest(0), 350);
        check.good(some, "the last, and one does", some.safest(1), 1);
        PoleSets one = Scenes.threes(0, 50);
        one.slope(355, 60, 30, 0);
        check.good(one, "by SIDE 0: the second", one.safest(0), 10);
        one.slope(355, 60, 30, 45);
        check.good(one, "by SIDE 45: the sixth", one.safest(0), 50);
        check.good(one, "the SLOPE stays", one.risk(0), 1);
    }

    private void steepest() {
        check.sentence("`int steepest()`: STEEPEST.");
        PoleSets e = new PoleSets();
        check.good(e, "of none", e.steepest(), 90);
        PoleSets x = Scenes.threes(0, 90);
        x.slope(180, 90, 0, 0);
        check.good(x, "the least there is", x.steepest(), 0);
        x.slope(180, 90, 89, 0);
        check.good(x, "one less than 89", x.steepest(), 88);
        x.slope(0, 90, 0, 45);
        check.good(x, "the most there is", x.steepest(), 90);
    }

    private void fold() {
        check.sentence("`int fold(int set, int other, int trend, int g)`: FOLD of two SETS round an axis of a TREND by g (1; 2).");
        PoleSets e = new PoleSets();
        check.refused(e, "of none", e.fold(0, 1, 0, 0), 2);
        check.refused(e, "of none, g 181", e.fold(0, 1, 0, 181), 1);
        PoleSets x = Scenes.threes(0, 30, 180, 30);
        int due = 600000 / (6000 - 5184);
        for (int g : new int[] {-180, 0, 180}) {
            check.good(x, "by " + g, x.fold(0, 1, 0, g), due);
            check.good(x, "by " + g + ", the other first", x.fold(1, 0, 0, g), due);
        }
        check.good(x, "round 359", x.fold(0, 1, 359, 0), due);
        check.refused(x, "by -181", x.fold(0, 1, 0, -181), 1);
        check.refused(x, "by 181", x.fold(0, 1, 0, 181), 1);
        check.refused(x, "round -1", x.fold(0, 1, -1, 0), 1);
        check.refused(x, "round 360", x.fold(0, 1, 360, 0), 1);
        check.refused(x, "two that are one", x.fold(0, 0, 0, 0), 2);
        check.refused(x, "two that are one, g 181", x.fold(0, 0, 0, 181), 1);
        check.refused(x, "no such SET", x.fold(0, 2, 0, 0), 2);
        check.refused(x, "no such SET", x.fold(-1, 0, 0, 0), 2);
        PoleSets whole = Scenes.threes(0, 0, 0, 90);
        check.good(whole, "onto each other: six of (705, 0, 705)", whole.fold(0, 1, 90, 45), 600000 / (6000 - 5982));
    }

    private void unfold() {
        check.sentence("`int unfold(int set, int other, int trend, int what)`: UNFOLD, what 0: g, 1: how TIGHT (1; 2).");
        PoleSets e = new PoleSets();
        check.refused(e, "of none", e.unfold(0, 1, 0, 0), 2);
        check.refused(e, "of none, what 2", e.unfold(0, 1, 0, 2), 1);
        PoleSets x = Scenes.threes(0, 30, 180, 30);
        check.good(x, "the last g", x.unfold(0, 1, 0, 0), 90);
        check.good(x, "the last g, the other first", x.unfold(1, 0, 180, 0), 90);
        check.good(x, "how TIGHT", x.unfold(0, 1, 0, 1), 600000 / (6000 - 5989));
        check.refused(x, "what -1", x.unfold(0, 1, 0, -1), 1);
        check.refused(x, "what 2", x.unfold(0, 1, 0, 2), 1);
        check.refused(x, "round -1", x.unfold(0, 1, -1, 0), 1);
        check.refused(x, "round 360", x.unfold(0, 1, 360, 0), 1);
        check.refused(x, "two that are one", x.unfold(0, 0, 0, 0), 2);
        check.refused(x, "no such SET", x.unfold(0, 2, 0, 0), 2);
        check.refused(x, "no such SET", x.unfold(-1, 0, 0, 0), 2);
    }
}
