/** The document's parts 2 and 3: sets, seeds, means, cones; settled, thick, spacings, blocks. */
final class SetBoundaries {
    private final Check check;

    SetBoundaries(Check check) {
        this.check = check;
    }

    void look() {
        links();
        hanging();
        enough();
        numbers();
        order();
        seeds();
        sums();
        masses();
        means();
        liesOfMeans();
        longs();
        tight();
        cones();
        halves();
        settledAtFirst();
        rounds();
        meansThatStay();
        roundsAtMost();
        thick();
        peaks();
        spacings();
        crosses();
        blocks();
    }

    // ---- part 2

    private void links() {
        check.aside("==== 2.");
        check.sentence("LINK 1 to 45 (at first 10), LEAST 2 to 20 (at first 3).");
        PoleSets x = new PoleSets();
        check.refused(x, "link(0, 2)", x.link(0, 2), 1);
        check.refused(x, "link(46, 2)", x.link(46, 2), 1);
        check.refused(x, "link(1, 1)", x.link(1, 1), 1);
        check.refused(x, "link(1, 21)", x.link(1, 21), 1);
        check.refused(x, "link(-1, 3)", x.link(-1, 3), 1);
        check.good(x, "at first: link(1, 2)", x.link(1, 2), 1003);
        check.good(x, "link(45, 20)", x.link(45, 20), 102);
        check.good(x, "link(10, 3)", x.link(10, 3), 4520);
        PoleSets first = Scenes.lies(0, 0, 0, 10, 0, 11);
        check.good(first, "three within 10 at first", first.many(3), 1);
        PoleSets wide = Scenes.lies(0, 0, 0, 11, 0, 22);
        check.good(wide, "three by 11 at first", wide.many(3), 0);
    }

    private void hanging() {
        check.sentence("CRACKS hang together if their POLES are NEAR by LINK, or both hang together with others.");
        setsBy(1, 45, 2, 0, 0, 0, 45);
        setsBy(0, 44, 2, 0, 0, 0, 45);
        setsBy(1, 1, 2, 0, 0, 0, 1);
        setsBy(0, 1, 2, 0, 0, 0, 3);
        setsBy(1, 21, 2, 5, 80, 185, 80);
        setsBy(0, 20, 2, 5, 80, 185, 80);
        setsBy(1, 10, 5, 0, 10, 0, 20, 0, 30, 0, 40, 0, 50);
        setsBy(0, 10, 4, 0, 10, 0, 20, 0, 40, 0, 50);
        setsBy(2, 10, 2, 0, 10, 0, 20, 0, 40, 0, 50);
    }

    private void setsBy(int sets, int link, int least, int... lies) {
        PoleSets x = Scenes.lies(lies);
        x.link(link, least);
        check.good(x, "SETS by LINK " + link + ", LEAST " + least, x.many(3), sets);
    }

    private void enough() {
        check.sentence("Those that hang together are a SET, if they are LEAST or more; all others are STRAYS.");
        for (int least : new int[] {2, 3, 20}) {
            PoleSets x = Scenes.repeat(Scenes.lies(), least - 1, 30, 40);
            x.link(10, least);
            check.good(x, "one fewer than " + least, x.many(3), 0);
            check.good(x, "all STRAYS", x.many(4), least - 1);
            check.good(x, "its place", x.of(0, 9), -1);
            Scenes.more(x, 30, 40);
            check.good(x, "just " + least, x.many(3), 1);
            check.good(x, "no STRAYS", x.many(4), 0);
            check.good(x, "its place", x.of(0, 9), 0);
            Scenes.more(x, 30, 40);
            check.good(x, "one more than " + least, x.set(0, 0), least + 1);
        }
        PoleSets none = new PoleSets();
        check.good(none, "nothing told: SETS", none.many(3), 0);
        check.good(none, "nothing told: STRAYS", none.many(4), 0);
        PoleSets full = Scenes.full();
        check.good(full, "as many as may be: SETS", full.many(3), 30);
        check.good(full, "as many as may be: STRAYS", full.many(4), 0);
        full.link(1, 3);
        check.good(full, "sixty STRAYS", full.many(4), 60);
        PoleSets alone = Scenes.lies();
        for (int i = 0; i < 60; i++) {
            Scenes.more(alone, 6 * i, 40);
        }
        alone.link(1, 2);
        check.good(alone, "sixty, each alone", alone.many(4), 60);
        check.good(alone, "no SETS", alone.many(3), 0);
        check.good(alone, "no SETS without one", alone.without(59), 0);
        alone.link(10, 20);
        check.good(alone, "all sixty in a ring", alone.set(0, 0), 60);
        alone.link(1, 2);
        check.good(alone, "each alone again", alone.many(4), 60);
    }

    private void numbers() {
        check.sentence("SETS are numbered from 0 on: by how many, most first, of like ones by their least LIE (PLAIN, by DIRECTION,"
            + " then DIP).");
        seedsInOrder(Scenes.more(Scenes.threes(300, 60, 20, 50, 20, 30, 200, 90), 300, 60), 30060, 2030, 2050, 2090);
        seedsInOrder(Scenes.threes(359, 45, 1, 80, 20, 45, 0, 15), 15, 180, 2045, 35945);
        seedsInOrder(Scenes.threes(180, 90, 1, 45), 90, 145);
        seedsInOrder(Scenes.threes(179, 90, 200, 0, 359, 45), 0, 17990, 35945);
        seedsInOrder(Scenes.threes(10, 89, 190, 45, 9, 20), 920, 1089, 19045);
        PoleSets least = Scenes.threes(40, 50);
        Scenes.more(least, 340, 60, 350, 60, 0, 60);
        check.good(least, "a set is numbered by its least LIE, not by its SEED", least.of(3, 9), 0);
        check.good(least, "its SEED", least.set(0, 11), 35060);
    }

    private void seedsInOrder(PoleSets x, int... seeds) {
        check.good(x, "how many", x.many(3), seeds.length);
        for (int i = 0; i < seeds.length; i++) {
            check.good(x, "SEED of " + i, x.set(i, 11), seeds[i]);
        }
    }

    private void order() {
        check.sentence("(In what order CRACKS were told is of no matter to any of that.)");
        int[][] lies = {{0, 0}, {0, 10}, {0, 20}, {50, 85}, {55, 85}, {230, 88}, {120, 45}, {120, 50}, {121, 45}, {300, 20}};
        PoleSets first = new PoleSets();
        for (int turn = 0; turn < 10; turn++) {
            PoleSets x = Scenes.lies();
            for (int i = 0; i < lies.length; i++) {
                int[] lie = lies[(turn + i * (turn % 2 == 0 ? 3 : 7)) % lies.length];
                Scenes.more(x, lie[0], lie[1]);
            }
            if (turn == 0) {
                first = x;
                check.good(x, "many(3)", x.many(3), 3);
            }
            check.due("digest()", x.digest(), first.digest());
            for (int set = 0; set < 3; set++) {
                for (int what = 0; what <= 11; what++) {
                    check.due("set(" + set + ", " + what + ") by another order", x.set(set, what), first.set(set, what));
                }
            }
        }
    }

    private void seeds() {
        check.sentence("SEED of a SET: the LIE (PLAIN) of its members to which most members are NEAR by LINK, of several the least"
            + " (by DIRECTION, then DIP).");
        seed(45, 5, 0, 50, 0, 40, 0, 45);
        seed(40, 10, 0, 50, 0, 40, 0, 45);
        seed(130, 10, 2, 30, 1, 30, 359, 29, 1, 31);
        seed(30, 10, 2, 30, 1, 30, 0, 30, 1, 31);
        seed(85, 10, 180, 90, 0, 85, 181, 90);
        seed(90, 10, 180, 90, 1, 85, 181, 90);
        seed(0, 10, 359, 0, 0, 5, 200, 1);
        PoleSets sixty = Scenes.repeat(Scenes.lies(), 59, 200, 40);
        Scenes.more(sixty, 1, 1, 200, 40);
        check.good(sixty, "of as many as may be", sixty.set(0, 11), 20040);
    }

    private void seed(int due, int link, int... lies) {
        PoleSets x = Scenes.lies(lies);
        x.link(link, 2);
        check.good(x, "SEED by LINK " + link, x.set(0, 11), due);
    }

    private void sums() {
        check.sentence("SUM: of all members WEIGHT times POLE, the POLE turned round (all three below 0 instead, and back) if its"
            + " DOT with that of SEED is below 0.");
        PoleSets x = Scenes.lies(0, 0, 180, 20, 180, 20, 0, 30, 0, 60, 0, 90);
        x.link(31, 3);
        check.good(x, "its SEED", x.set(0, 11), 0);
        check.good(x, "x: 343 and 343, -500, -864, and -1000 whose DOT is 0", x.set(0, 4), (686 - 500 - 864 - 1000) / 6);
        PoleSets above = Scenes.lies(0, 45, 0, 50, 0, 55, 0, 90, 180, 80);
        above.link(40, 3);
        check.good(above, "its SEED", above.set(0, 11), 50);
        check.good(above, "x with one turned round", above.set(0, 4), (-705 - 764 - 817 - 1000 - 984) / 5);
        check.good(above, "z with one turned round", above.set(0, 6), (705 + 641 + 573 + 0 - 175) / 5);
    }

    private void masses() {
        check.sentence("MASS: WEIGHTS together.");
        PoleSets two = Scenes.lies(0, 0, 0, 0);
        two.link(1, 2);
        check.good(two, "of two at least", two.set(0, 1), 2000);
        PoleSets x = heavy(60, 0);
        check.good(x, "of sixty by CAP 20", x.set(0, 1), 1200000);
        x.cap(1);
        check.good(x, "of sixty by CAP 1", x.set(0, 1), 60000);
    }

    /** By a level line and CAP 20: so many flat ones, so many that dip by 1 towards 90; 20000 each. */
    private static PoleSets heavy(int flat, int tilted) {
        PoleSets x = new PoleSets();
        x.line(0, 0, 9);
        x.cap(20);
        Scenes.repeat(x, flat, 0, 0);
        return Scenes.repeat(x, tilted, 90, 1);
    }

    private void means() {
        check.sentence("MEAN: SUM by MASS; if that is 0, 0, 0: the POLE of SEED; turned round so that z is not below 0, and if z is 0,"
            + " y is not, and if y is 0, too, x is not.");
        mean(Scenes.threes(0, 0), 0, 0, 1000);
        mean(Scenes.threes(0, 90), 1000, 0, 0);
        mean(Scenes.threes(180, 90), 1000, 0, 0);
        mean(Scenes.threes(90, 90), 0, 1000, 0);
        mean(Scenes.threes(45, 90), 705, 705, 0);
        mean(Scenes.threes(135, 90), -705, 705, 0);
        mean(Scenes.threes(179, 90), -999, 17, 0);
        mean(Scenes.threes(180, 89), 999, 0, 17);
        mean(Scenes.lies(10, 90, 10, 90, 10, 90, 190, 80), 980, 174, 43);
        mean(Scenes.lies(0, 90, 0, 90, 0, 90, 180, 80), 996, 0, 43);
        mean(heavy(56, 4), 0, -1, 999);
        PoleSets rim = Scenes.lies(170, 90, 10, 90);
        rim.link(21, 2);
        mean(rim, 984, 0, 0);
    }

    private void mean(PoleSets x, int... due) {
        for (int i = 0; i < 3; i++) {
            check.good(x, "MEAN: " + i, x.set(0, 4 + i), due[i]);
        }
    }

    private void liesOfMeans() {
        check.sentence("LIE of a vector whose z is not below 0: T: the degree (0 to 359) for which x times COSINE and y times SINE,"
            + " together, are the most, the first; h: that by 1000; DIP: the degree (0 to 90) for which h times SINE and z times"
            + " COSINE, together, are the most, the first; DIRECTION: T and 180 (mod 360); the PLAIN one of that.");
        lie(Scenes.threes(77, 0), 0, 0);
        lie(Scenes.threes(0, 1), 0, 0);
        lie(Scenes.threes(0, 3), 0, 2);
        lie(Scenes.threes(0, 30), 0, 30);
        lie(Scenes.threes(180, 30), 180, 30);
        lie(Scenes.threes(270, 30), 270, 30);
        lie(Scenes.threes(0, 45), 0, 44);
        lie(Scenes.threes(0, 88), 0, 88);
        lie(Scenes.threes(180, 89), 0, 90);
        lie(Scenes.threes(270, 89), 90, 90);
        lie(Scenes.threes(0, 90), 0, 90);
        lie(Scenes.threes(180, 90), 0, 90);
        lie(Scenes.threes(90, 90), 90, 90);
        lie(Scenes.threes(45, 90), 44, 90);
        lie(Scenes.threes(179, 90), 0, 90);
        lie(Scenes.threes(359, 45), 0, 44);
        lie(Scenes.lies(10, 90, 10, 90, 10, 90, 190, 80), 191, 88);
    }

    private void lie(PoleSets x, int direction, int dip) {
        check.good(x, "DIRECTION", x.set(0, 2), direction);
        check.good(x, "DIP", x.set(0, 3), dip);
    }

    private void longs() {
        check.sentence("LONG: the root of SQUARE of SUM, by 1000.");
        PoleSets x = Scenes.threes(0, 88);
        check.good(x, "2998838 by 1000", x.set(0, 7), 2998);
        PoleSets most = heavy(60, 0);
        check.good(most, "as much as there may be", most.set(0, 7), 1200000);
        check.due("20 less", heavy(59, 1).set(0, 7), 1199980);
    }

    private void tight() {
        check.sentence("TIGHT: 100 times MASS by MASS less LONG, 1,000,000 at most (also if MASS is not more than LONG).");
        check.due("MASS is LONG", heavy(60, 0).set(0, 8), 1000000);
        check.due("LONG is 119 less: 1008403", heavy(54, 6).set(0, 8), 1000000);
        check.due("LONG is 138 less", heavy(53, 7).set(0, 8), 120000000 / 138);
        check.due("MASS is LONG, by CAP 1", Scenes.threes(0, 0).set(0, 8), 1000000);
        PoleSets two = Scenes.lies(0, 88, 0, 88);
        two.link(1, 2);
        check.due("LONG is 1 less", two.set(0, 8), 200000);
        PoleSets longer = Scenes.threes(8, 90, 11, 90);
        longer.link(1, 3);
        check.good(longer, "LONG is 4 less", longer.fold(0, 1, 281, 0), 600000 / 4);
        check.good(longer, "LONG is 1 more, for (972, 242, 0) is longer than 1000", longer.fold(0, 1, 281, 180), 1000000);
        PoleSets loose = Scenes.lies(0, 0, 0, 45, 0, 90);
        loose.link(45, 3);
        check.good(loose, "three over a quarter", loose.set(0, 8), 300000 / (3000 - loose.set(0, 7)));
    }

    private void cones() {
        check.sentence("CONE: the greatest ANGLE of a member's POLE and MEAN.");
        check.due("of like ones", Scenes.threes(30, 40).set(0, 9), 0);
        PoleSets x = Scenes.lies(0, 0, 0, 0, 0, 20, 180, 20);
        x.link(20, 2);
        check.good(x, "two flat ones and two of 20", x.set(0, 9), 20);
        check.due("one square to the mean", quarter().set(0, 9), 90);
        PoleSets less = Scenes.lies(0, 0, 0, 0, 0, 20, 180, 20);
        less.link(20, 2);
        check.good(less, "before", less.set(0, 9), 20);
        less.drop(3);
        less.drop(2);
        check.good(less, "without those farthest out", less.set(0, 9), 0);
    }

    /**
     * Ten flat ones, tilted ones on both sides, and two upright ones that weigh more than all others and whose
     * poles, looking away from each other, are square to the mean.
     */
    private static PoleSets quarter() {
        PoleSets x = new PoleSets();
        x.line(0, 90, 9);
        x.cap(20);
        x.link(31, 3);
        Scenes.repeat(x, 10, 0, 0);
        return Scenes.more(x, 0, 30, 0, 60, 180, 30, 180, 60, 0, 90, 179, 90);
    }

    private void halves() {
        check.sentence("HALF: the least angle by which members NEAR MEAN have half of MASS or more (twice theirs is no less than"
            + " MASS).");
        check.due("of like ones", Scenes.threes(30, 40).set(0, 10), 0);
        PoleSets x = Scenes.lies(0, 0, 0, 0, 0, 20, 180, 20);
        x.link(20, 2);
        check.good(x, "just half", x.set(0, 10), 0);
        x.drop(0);
        check.good(x, "less than half", x.set(0, 10), 20);
        check.due("the greatest there is", quarter().set(0, 10), 90);
        PoleSets just = new PoleSets();
        just.line(0, 90, 9);
        just.cap(2);
        Scenes.more(just, 0, 0, 0, 0, 0, 3, 180, 3);
        check.good(just, "2000 of 4002", just.set(0, 1), 4002);
        check.good(just, "2000 of 4002: less than half", just.set(0, 10), 3);
        just.cap(1);
        check.good(just, "2000 of 4000: just half", just.set(0, 10), 0);
        PoleSets most = quarter();
        check.good(most, "with the two", most.set(0, 10), 90);
        most.drop(15);
        most.drop(14);
        check.good(most, "without the two", most.set(0, 10), 0);
    }

    // ---- part 3

    private void settledAtFirst() {
        check.aside("==== 3.");
        check.sentence("SETTLED, with a REACH (1 to 90): at first each CRACK is in its SET, or in none.");
        PoleSets x = Scenes.threes(0, 0, 0, 60);
        for (int what = 0; what <= 2; what++) {
            check.refused(x, "settled(0, ..)", x.settled(0, what), 1);
            check.refused(x, "settled(91, ..)", x.settled(91, what), 1);
        }
        check.refused(x, "settledIn(0, 0)", x.settledIn(0, 0), 1);
        check.refused(x, "settledIn(91, 0)", x.settledIn(91, 0), 1);
        check.refused(x, "settledLie(0, 0)", x.settledLie(0, 0), 1);
        check.refused(x, "settledLie(91, 0)", x.settledLie(91, 0), 1);
        for (int reach : new int[] {1, 90}) {
            check.good(x, "nothing moves: ROUNDS", x.settled(reach, 0), 1);
            check.good(x, "nothing moves: elsewhere", x.settled(reach, 1), 0);
            check.good(x, "nothing moves: in none", x.settled(reach, 2), 0);
        }
        PoleSets none = new PoleSets();
        check.good(none, "nothing told: ROUNDS", none.settled(90, 0), 1);
        check.good(none, "nothing told: in none", none.settled(90, 2), 0);
        PoleSets strays = Scenes.lies(0, 0, 0, 60);
        check.good(strays, "no SETS: ROUNDS", strays.settled(90, 0), 1);
        check.good(strays, "no SETS: elsewhere", strays.settled(90, 1), 0);
        check.good(strays, "no SETS: in none", strays.settled(90, 2), 2);
        check.good(strays, "no SETS: in none", strays.settledIn(90, 0), -1);
    }

    private void rounds() {
        check.sentence("A ROUND: by MEANS as they are now each CRACK goes to the SET whose MEAN has the least ANGLE with its POLE, of"
            + " like ones the first, if that is REACH or less, else to none;");
        PoleSets x = Scenes.more(Scenes.threes(0, 0, 0, 60), 0, 30, 0, 90);
        check.good(x, "30 from both, by REACH 30", x.settledIn(30, 6), 0);
        check.good(x, "30 from both, by REACH 29", x.settledIn(29, 6), -1);
        check.good(x, "30 from the second, by REACH 30", x.settledIn(30, 7), 1);
        check.good(x, "30 from the second, by REACH 29", x.settledIn(29, 7), -1);
        check.good(x, "in none by REACH 29", x.settled(29, 2), 2);
        check.good(x, "in none by REACH 30", x.settled(30, 2), 0);
        check.good(x, "elsewhere by REACH 30", x.settled(30, 1), 2);
        check.good(x, "elsewhere by REACH 29", x.settled(29, 1), 0);
        PoleSets square = Scenes.more(Scenes.threes(0, 0, 0, 90), 90, 90);
        check.good(square, "90 from both", square.settledIn(90, 6), 0);
        check.good(square, "90 from both, by REACH 89", square.settledIn(89, 6), -1);
    }

    private void meansThatStay() {
        check.sentence("then each SET that has any has as MEAN: SUM (turned round by the DOT with its MEAN so far) by MASS, as above;");
        PoleSets x = Scenes.more(Scenes.threes(0, 0), 0, 18);
        check.good(x, "by REACH 17", x.settledLie(17, 0), 0);
        check.good(x, "drawn by one of 18", x.settledLie(18, 0), 5);
        PoleSets across = Scenes.more(Scenes.threes(0, 85), 180, 80);
        check.good(across, "across the rim, by REACH 14", across.settledLie(14, 0), 85);
        check.good(across, "across the rim, by REACH 15: (-993, 0, 22)", across.settledLie(15, 0), 90);
        check.sentence("if that is 0, 0, 0, or it has none, its MEAN stays.");
        PoleSets fan = Scenes.lies(30, 40, 30, 50);
        fan.link(10, 2);
        check.good(fan, "the MEAN at first", fan.settledLie(1, 0), 100 * fan.set(0, 2) + fan.set(0, 3));
        check.good(fan, "in none by REACH 1", fan.settled(1, 2), 2);
        check.good(fan, "ROUNDS by REACH 1", fan.settled(1, 0), 2);
        check.good(fan, "the first, by REACH 1", fan.settledIn(1, 0), -1);
        check.good(fan, "that LIE", fan.settledLie(1, 0), 3044);
        PoleSets gone = deserted();
        check.good(gone, "its MEAN at first", gone.set(0, 4), 990);
        check.good(gone, "ROUNDS", gone.settled(90, 0), 2);
        for (int crack = 0; crack < 22; crack++) {
            int due = crack < 4 || crack > 7 && crack < 13 ? 2 : crack < 20 ? 1 : 0;
            check.good(gone, "settledIn(90, " + crack + ")", gone.settledIn(90, crack), due);
        }
        check.good(gone, "(1, 1, 0) by 2 is 0, 0, 0: its MEAN stays", gone.settledLie(90, 0), 90);
    }

    /**
     * Eight upright ones, four to each side of their mean, all of which go over to two sets that lie around them;
     * then two that are nearly flat are all that comes to that mean, 90 from every mean, and as one of them is
     * turned round, nothing is left of their sum.
     */
    private static PoleSets deserted() {
        PoleSets x = new PoleSets();
        x.line(0, 0, 9);
        x.line(82, 0, 9);
        x.line(100, 0, 9);
        x.cap(20);
        x.link(20, 3);
        Scenes.repeat(x, 4, 172, 90);
        Scenes.repeat(x, 4, 188, 90);
        x.crack(1, 172, 68, 0);
        x.crack(1, 352, 68, 0);
        Scenes.more(x, 154, 77, 147, 90, 334, 77);
        x.crack(2, 190, 46, 0);
        x.crack(2, 10, 46, 0);
        Scenes.more(x, 204, 61, 208, 75, 209, 90, 28, 75, 24, 61);
        return Scenes.more(x, 270, 1, 274, 1);
    }

    private void roundsAtMost() {
        check.sentence("ROUNDS are done till one changes no CRACK's place, that one too, but 12 at most.");
        settling(2, 0, 790, 0, 0, 0, 27);
        settling(11, 3, 6090, 0, 0, 0, 27, 34, 42, 45, 50, 58, 60, 63, 71, 74, 78, 82, 84);
        settling(12, 4, 6190, 0, 0, 0, 25, 35, 43, 43, 52, 61, 57, 65, 71, 71, 75, 79, 84);
        settling(12, 4, 6590, 0, 0, 0, 29, 32, 41, 42, 51, 60, 57, 64, 68, 75, 76, 82, 86, 89, 94);
    }

    /** Upright ones; the last of those above would need fourteen rounds, and end with 5 in none and 7090. */
    private void settling(int rounds, int nowhere, int lie, int... directions) {
        PoleSets x = Scenes.lies();
        x.link(1, 3);
        for (int direction : directions) {
            Scenes.more(x, direction, 90);
        }
        check.good(x, "ROUNDS of " + directions.length, x.settled(33, 0), rounds);
        check.good(x, "in none of " + directions.length, x.settled(33, 2), nowhere);
        check.good(x, "the MEAN of " + directions.length, x.settledLie(33, 0), lie);
    }

    private void thick() {
        check.sentence("THICK at a LIE by an angle: WEIGHTS together of CRACKS whose POLES are NEAR its.");
        PoleSets none = new PoleSets();
        check.good(none, "nothing told", none.thick(0, 0, 90), 0);
        PoleSets x = Scenes.lies(0, 0, 200, 0, 0, 45, 0, 90, 180, 90);
        check.good(x, "thick(0, 0, 0)", x.thick(0, 0, 0), 2000);
        check.good(x, "thick(359, 0, 44)", x.thick(359, 0, 44), 2000);
        check.good(x, "thick(0, 0, 45)", x.thick(0, 0, 45), 3000);
        check.good(x, "thick(0, 0, 89)", x.thick(0, 0, 89), 3000);
        check.good(x, "thick(0, 0, 90)", x.thick(0, 0, 90), 5000);
        check.good(x, "thick(0, 90, 0)", x.thick(0, 90, 0), 2000);
        check.good(x, "thick(180, 90, 0)", x.thick(180, 90, 0), 2000);
        check.good(x, "thick(1, 90, 0)", x.thick(1, 90, 0), 0);
        check.refused(x, "thick(0, 0, -1)", x.thick(0, 0, -1), 1);
        check.refused(x, "thick(0, 0, 91)", x.thick(0, 0, 91), 1);
        check.due("as much as may be", heavy(60, 0).thick(0, 0, 0), 1200000);
    }

    private void peaks() {
        check.sentence("PEAK by an angle: of LIES with DIPS 0, 10 .. 90, and of each DIRECTIONS 0, 10 .. 350, the first at which it is"
            + " THICK the most.");
        peak(0, 0, 0, 0, Scenes.lies(5, 5));
        peak(0, 0, 0, 1000, Scenes.lies(123, 0));
        peak(0, 350, 80, 1000, Scenes.lies(350, 80));
        peak(0, 350, 10, 1000, Scenes.lies(350, 10));
        peak(0, 0, 90, 1000, Scenes.lies(180, 90));
        peak(0, 170, 90, 1000, Scenes.lies(350, 90));
        peak(0, 20, 30, 1000, Scenes.lies(10, 40, 40, 30, 20, 30));
        peak(0, 10, 40, 2000, Scenes.lies(10, 40, 40, 30, 20, 30, 10, 40));
        peak(90, 0, 0, 3000, Scenes.lies(10, 40, 40, 30, 20, 30));
        PoleSets again = Scenes.lies(10, 40, 10, 40, 40, 30);
        peak(90, 0, 0, 3000, again);
        peak(0, 10, 40, 2000, again);
        again.drop(0);
        peak(0, 40, 30, 1000, again);
        PoleSets none = Scenes.lies();
        check.refused(none, "peak of none", none.peak(90, 0), 5);
    }

    private void peak(int angle, int direction, int dip, int mass, PoleSets x) {
        check.good(x, "PEAK: DIRECTION", x.peak(angle, 0), direction);
        check.good(x, "PEAK: DIP", x.peak(angle, 1), dip);
        check.good(x, "PEAK: how THICK", x.peak(angle, 2), mass);
    }

    private void spacings() {
        check.sentence("SPACING of a SET on a LINE: its members there by AT: GAPS: one fewer than these; APPARENT: the greatest AT less"
            + " the least, by GAPS; TRUE: APPARENT times c by 1000, c: the root of 1,000,000 times (DOT of MEAN and ARROW) squared"
            + " by both SQUARES.");
        PoleSets x = new PoleSets();
        x.line(0, 90, 100000);
        x.line(0, 0, 100000);
        x.line(0, 60, 1);
        x.crack(0, 0, 0, 100000);
        x.crack(1, 0, 0, 7);
        check.refused(x, "no SET yet", x.spacing(0, 0, 0), 2);
        x.crack(2, 0, 0, 0);
        check.refused(x, "one there", x.spacing(0, 0, 0), 5);
        x.crack(0, 0, 0, 0);
        spacing(x, 0, 1, 100000, 100000);
        x.crack(0, 0, 0, 0);
        spacing(x, 0, 2, 50000, 50000);
        x.crack(0, 0, 0, 99999);
        spacing(x, 0, 3, 33333, 33333);
        x.crack(1, 0, 0, 7);
        spacing(x, 1, 1, 0, 0);
        x.crack(1, 0, 0, 100000);
        spacing(x, 1, 2, 49996, 0);
        x.crack(2, 0, 0, 1);
        spacing(x, 2, 1, 1, 0);
        PoleSets fewer = Scenes.threes(0, 0);
        fewer.line(0, 90, 9);
        check.refused(fewer, "none there", fewer.spacing(0, 1, 0), 5);
    }

    private void spacing(PoleSets x, int line, int... due) {
        for (int what = 0; what <= 2; what++) {
            check.good(x, "spacing(0, " + line + ", " + what + ")", x.spacing(0, line, what), due[what]);
        }
    }

    private void crosses() {
        check.sentence("CROSS of two vectors a, b: (ay bz - az by, az bx - ax bz, ax by - ay bx), each by 1000.");
        PoleSets x = Scenes.threes(0, 60, 90, 60);
        check.good(x, "x: 0 times 500 less 500 times -864, by 1000", x.wedge(0, 1, 2), 432);
        check.good(x, "y: 500 times 0 less -864 times 500, by 1000", x.wedge(0, 1, 3), 432);
        check.good(x, "z: -864 times -864 less 0, by 1000", x.wedge(0, 1, 4), 746);
        PoleSets below = Scenes.threes(10, 60, 20, 80);
        check.good(below, "each cut towards 0 before it is turned round", below.wedge(0, 1, 2), crossX(below));
    }

    private static long crossX(PoleSets x) {
        long z = x.set(0, 4) * x.set(1, 5) - x.set(0, 5) * x.set(1, 4);
        long cross = (x.set(0, 5) * x.set(1, 6) - x.set(0, 6) * x.set(1, 5)) / 1000;
        return z / 1000 < 0 ? -cross : cross;
    }

    private void blocks() {
        check.sentence("BLOCK of three SETS with three lengths: these multiplied by one another, times 1000, by V; V: the DOT of the"
            + " first MEAN and CROSS of the others, without sign, by 1000.");
        PoleSets x = Scenes.threes(0, 0, 0, 90, 90, 90);
        check.good(x, "the least", x.block(0, 1, 2, 1, 1, 1), 1);
        check.good(x, "a DOT below 0", x.block(0, 2, 1, 1, 1, 1), 1);
        check.good(x, "the most", x.block(2, 1, 0, 100000, 100000, 100000), 1000000000000000L);
        PoleSets thin = Scenes.threes(0, 0, 90, 90, 93, 90);
        thin.link(2, 3);
        check.good(thin, "V is 53", thin.block(0, 1, 2, 100000, 100000, 100000), 1000000000000000000L / 53);
        PoleSets flat = Scenes.threes(0, 0, 0, 60, 0, 30);
        check.refused(flat, "V is 0", flat.block(0, 1, 2, 1, 1, 1), 5);
        check.refused(flat, "V is 0", flat.block(0, 1, 2, 100000, 100000, 100000), 5);
    }
}
