/** The document's part 4: wedges, slopes, turning, safety, fabric, the next line. */
final class SlopeBoundaries {
    private final Check check;

    SlopeBoundaries(Check check) {
        this.check = check;
    }

    void look() {
        wedges();
        trends();
        slopes();
        apart();
        sliding();
        toppling();
        slidingWedges();
        steepest();
        turning();
        folding();
        unfolding();
        safety();
        fabric();
        axes();
        nextLines();
    }

    private void wedges() {
        check.aside("==== 4.");
        check.sentence("WEDGE of two SETS: CROSS of their MEANS (the lower number first), turned round as MEAN is; none, if that is"
            + " 0, 0, 0.");
        wedge(Scenes.threes(0, 0, 0, 90), 0, 1000, 0);
        wedge(Scenes.threes(0, 0, 90, 90), 1000, 0, 0);
        wedge(Scenes.repeat(Scenes.threes(0, 0, 90, 90), 1, 90, 90), 1000, 0, 0);
        wedge(Scenes.threes(0, 90, 90, 90), 0, 0, 1000);
        wedge(Scenes.repeat(Scenes.threes(0, 90, 90, 90), 1, 90, 90), 0, 0, 1000);
        wedge(Scenes.threes(0, 0, 45, 90), -705, 705, 0);
        PoleSets alike = ring();
        check.good(alike, "two MEANS that are one", alike.apart(0, 1), 0);
        for (int what = 0; what <= 4; what++) {
            check.refused(alike, "no WEDGE: what " + what, alike.wedge(0, 1, what), 5);
            check.refused(alike, "no WEDGE: what " + what, alike.wedge(1, 0, what), 5);
        }
        check.good(alike, "no WEDGE SLIDES", alike.risk(2), 0);
        PoleSets later = Scenes.threes(45, 60, 315, 60);
        check.good(later, "a WEDGE that SLIDES", later.risk(2), 1);
        for (int left = 5; left >= 0; left--) {
            later.drop(0);
        }
        Scenes.repeat(ringOn(later), 3, 0, 0);
        check.good(later, "two MEANS that are one, where a WEDGE was", later.apart(0, 1), 0);
        check.good(later, "no WEDGE SLIDES", later.risk(2), 0);
        check.refused(later, "no couple", later.risk(3), 5);
    }

    /** By both orders. */
    private void wedge(PoleSets x, int... due) {
        for (int i = 0; i < 3; i++) {
            check.good(x, "wedge(0, 1, ..): " + i, x.wedge(0, 1, 2 + i), due[i]);
            check.good(x, "wedge(1, 0, ..): " + i, x.wedge(1, 0, 2 + i), due[i]);
        }
    }

    /** Eighteen that dip by 30 to all sides, and three flat ones. */
    private static PoleSets ring() {
        return Scenes.repeat(ringOn(Scenes.lies()), 3, 0, 0);
    }

    private static PoleSets ringOn(PoleSets x) {
        x.link(12, 3);
        for (int direction = 0; direction < 360; direction += 20) {
            Scenes.more(x, direction, 30);
        }
        return x;
    }

    private void trends() {
        check.sentence("Its TREND: T of it, as of a LIE; its PLUNGE: the degree (0 to 90) for which h times COSINE and z times SINE,"
            + " together, are the most, the first.");
        trend(Scenes.threes(0, 0, 0, 90), 90, 0);
        trend(Scenes.threes(0, 0, 90, 90), 0, 0);
        trend(Scenes.threes(0, 0, 45, 90), 134, 0);
        trend(Scenes.threes(0, 90, 90, 90), 0, 90);
        trend(Scenes.threes(45, 60, 315, 60), 0, 49);
        trend(Scenes.threes(135, 60, 225, 60), 180, 49);
        trend(Scenes.threes(315, 60, 225, 60), 270, 49);
        trend(Scenes.threes(0, 30, 0, 60), 90, 0);
    }

    private void trend(PoleSets x, int trend, int plunge) {
        check.good(x, "TREND", x.wedge(0, 1, 0), trend);
        check.good(x, "PLUNGE", x.wedge(0, 1, 1), plunge);
    }

    private void slopes() {
        check.sentence("A SLOPE: DIRECTION, DIP (1 to 90), FRICTION (0 to 89), SIDE (0 to 45) (at first 0, 60, 30, 20).");
        PoleSets x = new PoleSets();
        int[][] not = {{-1, 60, 30, 20}, {360, 60, 30, 20}, {0, 0, 30, 20}, {0, 91, 30, 20}, {0, 60, -1, 20}, {0, 60, 90, 20},
            {0, 60, 30, -1}, {0, 60, 30, 46}};
        for (int[] each : not) {
            check.refused(x, "slope", x.slope(each[0], each[1], each[2], each[3]), 1);
        }
        int[][] taken = {{0, 1, 0, 0}, {359, 90, 89, 45}, {0, 90, 0, 45}, {359, 1, 89, 0}};
        for (int[] each : taken) {
            check.good(x, "slope", x.slope(each[0], each[1], each[2], each[3]), 0);
        }
        PoleSets first = Scenes.threes(20, 35, 340, 35, 0, 60, 0, 30, 200, 60, 160, 60);
        check.good(first, "SLIDE at first: those of 35, 20 to both sides", first.risk(0), 4 + 32);
        check.good(first, "TOPPLE at first: those of 60 behind it", first.risk(1), 8 + 16);
        first.slope(0, 60, 30, 20);
        check.good(first, "the same, told", first.risk(0), 4 + 32);
        check.good(first, "the same, told", first.risk(1), 8 + 16);
        first.slope(0, 61, 29, 20);
        check.good(first, "one steeper and less FRICTION: all that look out SLIDE", first.risk(0), 1 + 2 + 4 + 32);
        first.slope(0, 60, 30, 19);
        check.good(first, "a narrower SIDE", first.risk(0) + first.risk(1), 0);
        PoleSets side = Scenes.threes(49, 55, 340, 60);
        check.good(side, "SIDE at first: 70 is 21 OFF 49", side.safest(0), 70);
        side.slope(0, 60, 30, 21);
        check.good(side, "by SIDE 21", side.safest(0), 80);
    }

    private void apart() {
        check.sentence("OFF of two directions: how many degrees they are apart the short way (0 to 180).");
        PoleSets x = Scenes.threes(20, 40);
        int[][] sides = {{20, 0}, {19, 1}, {21, 1}, {0, 20}, {359, 21}, {340, 40}, {335, 45}, {65, 45}};
        for (int[] each : sides) {
            check.good(x, "OFF " + each[0], x.slope(each[0], 90, 0, each[1]), 1);
            if (each[1] > 0) {
                check.good(x, "less than OFF " + each[0], x.slope(each[0], 90, 0, each[1] - 1), 0);
            }
        }
        check.good(x, "46 OFF", x.slope(334, 90, 0, 45), 0);
        check.good(x, "46 OFF", x.slope(66, 90, 0, 45), 0);
        check.good(x, "180 OFF", x.slope(200, 90, 0, 45), 0);
        check.good(x, "179 OFF", x.slope(199, 90, 0, 45), 0);
        PoleSets late = Scenes.threes(340, 40);
        check.good(late, "OFF across 0", late.slope(25, 90, 0, 45), 1);
        check.good(late, "OFF across 0", late.slope(25, 90, 0, 44), 0);
        check.good(late, "OFF across 0", late.slope(0, 90, 0, 20), 1);
    }

    private void sliding() {
        check.sentence("A SET (its MEAN's LIE) SLIDES, if its DIRECTION is SIDE or less OFF the SLOPE's, and its DIP is more than"
            + " FRICTION, and less than the SLOPE's.");
        PoleSets x = Scenes.threes(20, 35);
        check.good(x, "SIDE 0, straight", x.slope(20, 90, 0, 0), 1);
        check.good(x, "SIDE 20", x.slope(0, 90, 0, 20), 1);
        check.good(x, "SIDE 19", x.slope(0, 90, 0, 19), 0);
        check.good(x, "FRICTION 34", x.slope(20, 90, 34, 0), 1);
        check.good(x, "FRICTION 35", x.slope(20, 90, 35, 0), 0);
        check.good(x, "FRICTION 36", x.slope(20, 90, 36, 0), 0);
        check.good(x, "DIP 36", x.slope(20, 36, 0, 0), 1);
        check.good(x, "DIP 35", x.slope(20, 35, 0, 0), 0);
        check.good(x, "DIP 34", x.slope(20, 34, 0, 0), 0);
        check.good(x, "DIP 36, FRICTION 34", x.slope(20, 36, 34, 0), 1);
        PoleSets flat = Scenes.threes(0, 0, 0, 90);
        check.good(flat, "a flat one and an upright one never do", flat.slope(0, 90, 0, 45), 0);
        PoleSets all = many(false);
        check.good(all, "thirty SLIDE", all.slope(0, 90, 0, 45), 30);
        check.good(all, "thirty SLIDE, as bits", all.risk(0), (1 << 30) - 1);
    }

    /** As many sets as there can be, all dipping to within 45 of direction 0, or all away from it. */
    private static PoleSets many(boolean away) {
        PoleSets x = Scenes.lies();
        x.link(1, 2);
        for (int i = 0; i < 30; i++) {
            int direction = (i % 5 * 15 + 330 + (away ? 180 : 0)) % 360;
            Scenes.repeat(x, 2, direction, 25 + i / 5 * 10);
        }
        return x;
    }

    private void toppling() {
        check.sentence("It TOPPLES, if its DIRECTION is SIDE or less OFF the SLOPE's and 180, and the SLOPE's DIP less FRICTION is no"
            + " less than 90 less its DIP.");
        PoleSets x = Scenes.threes(200, 60);
        topples(x, 1, 20, 60, 30, 0);
        topples(x, 0, 20, 59, 30, 0);
        topples(x, 0, 20, 60, 31, 0);
        topples(x, 1, 20, 30, 0, 0);
        topples(x, 0, 20, 29, 0, 0);
        topples(x, 1, 0, 60, 30, 20);
        topples(x, 0, 0, 60, 30, 19);
        topples(x, 1, 40, 60, 30, 20);
        topples(x, 0, 41, 60, 30, 20);
        topples(x, 0, 200, 90, 0, 45);
        PoleSets round = Scenes.threes(340, 60);
        topples(round, 1, 160, 60, 30, 0);
        topples(round, 1, 205, 60, 30, 45);
        topples(round, 0, 206, 60, 30, 45);
        topples(Scenes.threes(0, 90), 1, 180, 1, 0, 0);
        topples(Scenes.threes(0, 90), 1, 180, 1, 1, 0);
        topples(Scenes.threes(0, 90), 0, 180, 1, 2, 0);
        topples(Scenes.threes(0, 0), 1, 180, 90, 0, 0);
        topples(Scenes.threes(0, 0), 0, 180, 89, 0, 0);
        topples(many(true), (1 << 30) - 1, 0, 90, 0, 45);
    }

    private void topples(PoleSets x, int bits, int... slope) {
        x.slope(slope[0], slope[1], slope[2], slope[3]);
        check.good(x, "TOPPLES by a slope of " + slope[0] + ", " + slope[1], x.risk(1), bits);
    }

    private void slidingWedges() {
        check.sentence("A WEDGE SLIDES, if its TREND is less than 90 OFF the SLOPE's, its PLUNGE is more than FRICTION, and SINE(PLUNGE)"
            + " times COSINE(DIP of the SLOPE) times 1000 is less than SINE(DIP of the SLOPE) times COSINE(OFF) times"
            + " COSINE(PLUNGE).");
        PoleSets x = Scenes.threes(45, 60, 315, 60);
        wedgesSlide(x, 1, 0, 50, 48);
        wedgesSlide(x, 0, 0, 49, 48);
        wedgesSlide(x, 0, 0, 50, 49);
        wedgesSlide(x, 1, 89, 90, 48);
        wedgesSlide(x, 0, 90, 90, 48);
        wedgesSlide(x, 0, 91, 90, 48);
        wedgesSlide(x, 1, 271, 90, 48);
        wedgesSlide(x, 0, 270, 90, 48);
        wedgesSlide(x, 0, 180, 90, 0);
        wedgesSlide(x, 0, 89, 89, 0);
        wedgesSlide(Scenes.threes(0, 90, 90, 90), 0, 0, 90, 0);
        wedgesSlide(Scenes.threes(0, 0, 90, 90), 0, 0, 90, 0);
        PoleSets later = Scenes.threes(0, 0, 45, 60, 315, 60);
        wedgesSlide(later, 1, 0, 90, 40);
        check.good(later, "the couple", later.risk(3), 102);
    }

    private void wedgesSlide(PoleSets x, int wedges, int direction, int dip, int friction) {
        x.slope(direction, dip, friction, 0);
        String which = "by a slope of " + direction + ", " + dip + ", FRICTION " + friction;
        check.good(x, "WEDGES that SLIDE " + which, x.risk(2), wedges);
        if (wedges == 0) {
            check.refused(x, "the first couple " + which, x.risk(3), 5);
        }
    }

    private void steepest() {
        check.sentence("STEEPEST: the greatest DIP (0 to 90) so that by SLOPES of each DIP from 1 up to it (else as it is) no SET SLIDES,"
            + " TOPPLES, no WEDGE SLIDES.");
        steepest(90, new PoleSets(), 0, 0, 0);
        steepest(0, Scenes.threes(0, 90), 180, 0, 0);
        steepest(0, Scenes.threes(0, 90), 180, 1, 0);
        steepest(1, Scenes.threes(0, 90), 180, 2, 0);
        steepest(88, Scenes.threes(0, 90), 180, 89, 0);
        steepest(89, Scenes.threes(0, 0), 180, 0, 0);
        steepest(90, Scenes.threes(0, 0), 180, 1, 0);
        steepest(2, Scenes.threes(0, 2), 0, 1, 0);
        steepest(90, Scenes.threes(0, 2), 0, 2, 0);
        steepest(88, Scenes.threes(0, 88), 0, 0, 0);
        steepest(90, Scenes.threes(0, 88), 0, 88, 0);
        steepest(49, Scenes.threes(45, 60, 315, 60), 0, 30, 20);
        steepest(90, Scenes.threes(45, 60, 315, 60), 0, 49, 20);
        PoleSets below = Scenes.threes(0, 40);
        below.slope(0, 20, 10, 0);
        check.good(below, "a SLOPE that is less steep than STEEPEST", below.steepest(), 41);
        check.good(below, "the SLOPE stays", below.risk(0), 0);
    }

    private void steepest(int due, PoleSets x, int direction, int friction, int side) {
        x.slope(direction, 90, friction, side);
        check.good(x, "steepest() by FRICTION " + friction, x.steepest(), due);
    }

    private void turning() {
        check.sentence("TURNED is a vector v by g degrees (-180 to 180) round a level axis of a TREND t: with u = (COSINE t, SINE t, 0):"
            + " each number of v times COSINE(g), that of w times SINE(g), that of r times (1000 less COSINE(g)), together, by 1000;"
            + " w: CROSS of u and v; r: u times q, by 1000; q: DOT of u and v, by 1000.");
        PoleSets x = Scenes.threes(0, 0, 90, 90);
        for (int trend : new int[] {0, 180}) {
            for (int g : new int[] {-180, 0, 180}) {
                check.good(x, "by " + g + ": square to each other", x.fold(0, 1, trend, g), squareFold());
            }
            for (int g : new int[] {-135, -45, 45, 135}) {
                check.good(x, "by " + g + ": onto each other", x.fold(0, 1, trend, g), 33333);
            }
            for (int g : new int[] {-90, 90}) {
                check.good(x, "by " + g + ": square to each other", x.fold(0, 1, trend, g), squareFold());
            }
        }
        PoleSets aslant = Scenes.threes(30, 40, 200, 70);
        int[][] folds = {{45, 60, 509}, {45, -100, 843}, {45, 170, 638}, {90, -30, 7692}, {90, 60, 1500}, {300, 20, 2380}};
        for (int[] each : folds) {
            check.good(aslant, "round " + each[0] + " by " + each[1], aslant.fold(0, 1, each[0], each[1]), each[2]);
        }
        check.refused(x, "by -181", x.fold(0, 1, 0, -181), 1);
        check.refused(x, "by 181", x.fold(0, 1, 0, 181), 1);
        check.refused(x, "round -1", x.fold(0, 1, -1, 0), 1);
        check.refused(x, "round 360", x.fold(0, 1, 360, 0), 1);
        check.good(x, "round 359", x.fold(0, 1, 359, 0), squareFold());
    }

    /** Six of 1000 by a sum of (0, 3000, 3000): LONG is 4242. */
    private static int squareFold() {
        return 600000 / (6000 - 4242);
    }

    private void folding() {
        check.sentence("LIMBS of two SETS by g: all members of both as one, POLES of the first TURNED by g, of the second by -g: FOLD:"
            + " TIGHT of these (all turned round by the DOT with the first limb's MEAN TURNED by g).");
        PoleSets x = Scenes.threes(0, 0, 90, 90);
        check.good(x, "the other limb first", x.fold(1, 0, 0, 45), x.fold(0, 1, 0, -45));
        PoleSets mirrored = Scenes.threes(0, 30, 180, 30);
        check.good(mirrored, "by 0", mirrored.fold(0, 1, 90, 0), 600000 / (6000 - 5184));
        check.good(mirrored, "by 90 round what mirrors them", mirrored.fold(0, 1, 0, 90), 600000 / (6000 - 5989));
        check.good(mirrored, "by -90 round what mirrors them", mirrored.fold(0, 1, 0, -90), 600000 / (6000 - 5989));
        check.refused(mirrored, "a SET with itself", mirrored.fold(0, 0, 0, 0), 2);
    }

    private void unfolding() {
        check.sentence("UNFOLD: the g (0 to 90) by which FOLD is the most, the first.");
        PoleSets first = Scenes.threes(0, 0, 90, 90);
        check.good(first, "both round 0", first.unfold(0, 1, 0, 0), firstOfMost(first, 0));
        check.good(first, "both round 0: how TIGHT", first.unfold(0, 1, 0, 1), first.fold(0, 1, 0, firstOfMost(first, 0)));
        PoleSets mirrored = Scenes.threes(0, 30, 180, 30);
        check.good(mirrored, "the last there is", mirrored.unfold(0, 1, 0, 0), 90);
        check.good(mirrored, "the last there is: how TIGHT", mirrored.unfold(0, 1, 0, 1), 600000 / (6000 - 5989));
        PoleSets beyond = Scenes.threes(156, 69, 204, 67);
        check.good(beyond, "by 91 it would be tighter", beyond.fold(0, 1, 0, 91), 1351);
        check.good(beyond, "the last there is", beyond.unfold(0, 1, 0, 0), 90);
        check.good(beyond, "the last there is: how TIGHT", beyond.unfold(0, 1, 0, 1), 1312);
        PoleSets alike = Scenes.threes(0, 88, 177, 90);
        alike.link(1, 3);
        check.good(alike, "the first there is", alike.unfold(0, 1, 0, 0), firstOfMost(alike, 0));
    }

    private static int firstOfMost(PoleSets x, int trend) {
        int best = 0;
        int most = -1;
        for (int g = 0; g <= 90; g++) {
            int tight = x.fold(0, 1, trend, g);
            if (tight > most) {
                most = tight;
                best = g;
            }
        }
        return best;
    }

    private void safety() {
        check.sentence("SAFETY of a SET: 100 times SINE(FRICTION) times COSINE(DIP of its MEAN's LIE) by COSINE(FRICTION) times SINE(that"
            + " DIP).");
        PoleSets x = Scenes.threes(0, 2, 0, 30, 0, 90);
        x.slope(0, 60, 89, 20);
        check.good(x, "the least DIP, the most FRICTION", x.safety(0), 100 * 999 * 999 / (17 * 35));
        check.good(x, "DIP 30", x.safety(1), 100 * 999 * 864 / (17 * 500));
        check.good(x, "DIP 90", x.safety(2), 0);
        x.slope(0, 60, 0, 20);
        for (int set = 0; set < 3; set++) {
            check.good(x, "no FRICTION", x.safety(set), 0);
        }
        x.slope(0, 60, 30, 20);
        check.good(x, "FRICTION is the DIP", x.safety(1), 100);
        PoleSets flat = Scenes.threes(0, 1);
        check.refused(flat, "the MEAN's LIE is flat", flat.safety(0), 5);
    }

    private void fabric() {
        check.sentence("FABRIC of all CRACKS: of two numbers of POLES (x, y, z) the products, each times WEIGHT, together, by MASS of all:"
            + " xx, yy, zz, xy, xz, yz.");
        PoleSets none = Scenes.lies();
        check.refused(none, "no CRACKS", none.fabric(0), 5);
        fabric(Scenes.lies(0, 90), 1000000, 0, 0, 0, 0, 0);
        fabric(Scenes.lies(90, 90), 0, 1000000, 0, 0, 0, 0);
        fabric(Scenes.lies(17, 0), 0, 0, 1000000, 0, 0, 0);
        fabric(Scenes.lies(30, 60), 746 * 746, 432 * 432, 500 * 500, 746 * 432, -746 * 500, -432 * 500);
        PoleSets tiny = Scenes.repeat(Scenes.lies(274, 1), 15, 0, 0);
        check.good(tiny, "-16 by 16", tiny.fabric(3), -1);
        Scenes.more(tiny, 0, 0);
        check.good(tiny, "-16 by 17", tiny.fabric(3), 0);
        PoleSets most = new PoleSets();
        most.line(0, 0, 9);
        most.cap(20);
        Scenes.repeat(most, 60, 0, 0);
        check.good(most, "sixty by CAP 20", most.fabric(2), 1000000);
    }

    private void fabric(PoleSets x, int... due) {
        for (int what = 0; what < due.length; what++) {
            check.good(x, "fabric(" + what + ")", x.fabric(what), due[what]);
        }
    }

    private void axes() {
        check.aside("By it a vector v has as much as xx vx vx, yy vy vy, zz vz vz, and twice xy vx vy, xz vx vz, yz vy vz, together.");
        check.sentence("GIRDLE, CLUSTER: of LIES with DIPS 0, 1 .. 90, and of each DIRECTIONS 0, 1 .. 359, the first for whose POLE what it"
            + " has by FABRIC by its SQUARE (not cut) is the least; the most.");
        axes(Scenes.lies(17, 0), 0, 90, 0, 0);
        axes(Scenes.lies(0, 90), 0, 0, 0, 90);
        axes(Scenes.lies(180, 90), 0, 0, 0, 90);
        axes(Scenes.lies(179, 90), 0, 0, 179, 90);
        axes(Scenes.lies(359, 90), 0, 0, 179, 90);
        axes(Scenes.lies(0, 90, 90, 90), 0, 0, 0, 90);
        axes(Scenes.lies(0, 0, 0, 90), 90, 90, 0, 0);
        axes(Scenes.lies(0, 0, 90, 90), 0, 90, 0, 0);
        cluster(359, 89);
        cluster(359, 45);
        cluster(180, 89);
        cluster(123, 37);
        cluster(0, 1);
        PoleSets two = Scenes.lies(359, 1);
        check.good(two, "CLUSTER: DIRECTION of the first with that POLE", two.axis(true, 0), 1);
        check.good(two, "CLUSTER: DIP of the first with that POLE", two.axis(true, 1), 1);
        PoleSets square = Scenes.lies(123, 37, 33, 90);
        check.good(square, "GIRDLE: DIRECTION, square to both", square.axis(false, 0), 303);
        check.good(square, "GIRDLE: DIP, square to both", square.axis(false, 1), 53);
        PoleSets later = Scenes.lies(17, 0);
        axes(later, 0, 90, 0, 0);
        Scenes.more(later, 0, 90);
        later.drop(0);
        axes(later, 0, 0, 0, 90);
    }

    private void axes(PoleSets x, int... due) {
        for (int what = 0; what <= 1; what++) {
            check.good(x, "GIRDLE: " + what, x.axis(false, what), due[what]);
            check.good(x, "CLUSTER: " + what, x.axis(true, what), due[2 + what]);
        }
    }

    /** The pole of the only crack has the most, for nothing is cut. */
    private void cluster(int direction, int dip) {
        PoleSets x = Scenes.lies(direction, dip);
        check.good(x, "CLUSTER: DIRECTION", x.axis(true, 0), direction);
        check.good(x, "CLUSTER: DIP", x.axis(true, 1), dip);
    }

    private void nextLines() {
        check.sentence("NEXT LINE: of PLUNGES 0, 10 .. 90, and of each TRENDS 0, 10 .. 350, the first for which WEIGHTS of all CRACKS, had"
            + " they been met by a LINE that lies so, are the least, together.");
        next(Scenes.lies(17, 0), 1, 0, 0, 1000);
        next(Scenes.lies(17, 0), 2, 0, 90, 1000);
        next(Scenes.lies(0, 90), 20, 0, 0, 1000);
        next(Scenes.lies(170, 90), 20, 170, 0, 1000);
        next(Scenes.lies(170, 80), 20, 350, 10, 1000);
        next(Scenes.lies(0, 10), 20, 170, 80, 1000);
        next(Scenes.repeat(Scenes.lies(), 60, 200, 40), 20, 20, 50, 60000);
        PoleSets none = Scenes.lies();
        check.refused(none, "no CRACKS", none.nextLine(2), 5);
    }

    private void next(PoleSets x, int cap, int... due) {
        x.cap(cap);
        for (int what = 0; what <= 2; what++) {
            check.good(x, "nextLine(" + what + ")", x.nextLine(what), due[what]);
        }
    }
}
