/** Promises 1 to 25, one by one: nothing told, as much as may be, the first and the last, what is refused. */
final class CallBoundaries {
    private final Check check;

    CallBoundaries(Check check) {
        this.check = check;
    }

    void look() {
        newObject();
        status();
        line();
        crack();
        drop();
        link();
        cap();
        slope();
        many();
        of();
        along();
        angle();
        near();
        set();
        member();
        stray();
        apart();
        hangs();
        overlap();
        digest();
        without();
        bridges();
        nearestSet();
        would();
        linkFor();
    }

    private void same(String what, PoleSets one, PoleSets other) {
        check.due(what, Scenes.portrait(one).equals(Scenes.portrait(other)) ? 1 : 0, 1);
    }

    // ---- what is told

    private void newObject() {
        check.sentence("`PoleSets()`: No LINES, no CRACKS; STATUS 0.");
        PoleSets x = new PoleSets();
        check.due("status()", x.status(), 0);
        check.good(x, "LINES", x.many(0), 0);
        check.good(x, "CRACKS", x.many(1), 0);
        check.good(x, "LINK and LEAST", x.link(10, 3), 1003);
        check.good(x, "CAP", x.cap(1), 1);
        PoleSets told = Scenes.rock();
        same("another object is of no matter", x, new PoleSets());
        check.good(told, "nor it to another", told.many(1), 20);
    }

    private void status() {
        check.sentence("`int status()`: STATUS of the latest call that has one.");
        PoleSets x = Scenes.full();
        x.many(5);
        check.due("1", x.status(), 1);
        x.of(60, 0);
        check.due("2", x.status(), 2);
        x.line(0, 0, 1);
        check.due("3", x.status(), 3);
        x.stray(0);
        check.due("5", x.status(), 5);
        check.due("5 once more", x.status(), 5);
        x.set(29, 0);
        check.due("0", x.status(), 0);
        x.set(30, 0);
        check.due("2 of a long", x.status(), 2);
        x.block(0, 10, 20, 1, 1, 1);
        check.due("0 of a long", x.status(), 0);
    }

    private void line() {
        check.sentence("`int line(int trend, int plunge, int length)`: A LINE more: which it is (1; 3).");
        PoleSets x = new PoleSets();
        for (int i = 0; i < 6; i++) {
            check.good(x, "line " + i, x.line(359 - i, 90 - i, 100000 - i), i);
        }
        check.refused(x, "a seventh", x.line(0, 0, 1), 3);
        check.refused(x, "a seventh that can't be", x.line(360, 0, 1), 1);
        check.good(x, "six", x.many(0), 6);
        check.good(x, "the last", x.along(5, 0), 354);
        check.good(x, "the first", x.along(0, 2), 100000);
        PoleSets twice = new PoleSets();
        check.good(twice, "a line", twice.line(0, 0, 1), 0);
        check.good(twice, "the same once more", twice.line(0, 0, 1), 1);
        check.refused(twice, "one that can't be", twice.line(0, 0, 0), 1);
        check.good(twice, "which is not counted", twice.line(0, 0, 1), 2);
    }

    private void crack() {
        check.sentence("`int crack(int line, int direction, int dip, int at)`: A CRACK more: which it is (1: AT below 0, too; 2; 1: AT"
            + " above LENGTH; 3).");
        PoleSets e = new PoleSets();
        check.refused(e, "no LINE yet", e.crack(0, 0, 0, 0), 2);
        check.refused(e, "AT below 0 before LINE", e.crack(0, 0, 0, -1), 1);
        check.refused(e, "AT above every LENGTH after LINE", e.crack(0, 0, 0, 100001), 2);
        PoleSets x = new PoleSets();
        x.line(0, 90, 50);
        for (int i = 0; i < 60; i++) {
            check.due("crack " + i, x.crack(0, i, 30, i % 51), i);
        }
        check.refused(x, "a sixty-first", x.crack(0, 0, 0, 50), 3);
        check.refused(x, "a sixty-first, AT above LENGTH", x.crack(0, 0, 0, 51), 1);
        check.refused(x, "a sixty-first on no LINE, AT above LENGTH", x.crack(1, 0, 0, 51), 2);
        check.refused(x, "a sixty-first on no LINE, AT below 0", x.crack(1, 0, 0, -1), 1);
        check.refused(x, "a sixty-first on a LINE below 0", x.crack(-1, 0, 0, 0), 2);
        check.good(x, "sixty", x.many(1), 60);
        check.good(x, "drop(59)", x.drop(59), 59);
        check.good(x, "room for one", x.crack(0, 359, 90, 50), 59);
        check.refused(x, "and no more", x.crack(0, 359, 90, 50), 3);
    }

    private void drop() {
        check.sentence("`int drop(int crack)`: A CRACK is left out; those behind it have numbers one less: how many are left (2).");
        PoleSets e = new PoleSets();
        check.refused(e, "of none", e.drop(0), 2);
        PoleSets x = Scenes.lies();
        for (int i = 0; i < 60; i++) {
            x.crack(0, i, 30, i);
        }
        check.refused(x, "drop(-1)", x.drop(-1), 2);
        check.refused(x, "drop(60)", x.drop(60), 2);
        check.good(x, "the last", x.drop(59), 59);
        check.good(x, "the last but one is the last", x.of(58, 1), 58);
        check.refused(x, "it is gone", x.of(59, 1), 2);
        check.good(x, "the first", x.drop(0), 58);
        check.good(x, "the second is the first", x.of(0, 1), 1);
        check.good(x, "the last has a number less", x.of(57, 1), 58);
        check.good(x, "one between", x.drop(30), 57);
        check.good(x, "before it", x.of(29, 1), 30);
        check.good(x, "behind it", x.of(30, 1), 32);
        check.good(x, "angles go with them", x.angle(29, 30), x.angle(0, 2));
        for (int left = 56; left >= 0; left--) {
            check.due("one more", x.drop(left / 2), left);
        }
        check.refused(x, "none is left", x.drop(0), 2);
        same("as if none had been told", x, Scenes.lies());
        PoleSets set = Scenes.threes(0, 0);
        check.good(set, "a SET of three", set.many(3), 1);
        set.drop(0);
        check.good(set, "is none of two", set.many(3), 0);
        Scenes.more(set, 0, 0);
        same("and the same again", set, Scenes.threes(0, 0));
    }

    private void link() {
        check.sentence("`int link(int link, int least)`: LINK, LEAST: 100 times LINK that was, and LEAST that was, together (1).");
        PoleSets x = Scenes.lies(0, 0, 0, 45);
        check.good(x, "link(45, 2)", x.link(45, 2), 1003);
        check.good(x, "a SET", x.many(3), 1);
        check.refused(x, "link(46, 2)", x.link(46, 2), 1);
        check.refused(x, "link(45, 1)", x.link(45, 1), 1);
        check.refused(x, "link(44, 21)", x.link(44, 21), 1);
        check.refused(x, "link(0, 3)", x.link(0, 3), 1);
        check.good(x, "the SET is still there", x.many(3), 1);
        check.good(x, "link(44, 2)", x.link(44, 2), 4502);
        check.good(x, "no SET", x.many(3), 0);
        check.good(x, "link(45, 20)", x.link(45, 20), 4402);
        check.good(x, "no SET", x.many(3), 0);
        check.good(x, "link(1, 2)", x.link(1, 2), 4520);
        check.good(x, "the same once more", x.link(1, 2), 102);
    }

    private void cap() {
        check.sentence("`int cap(int cap)`: CAP: what it was (1).");
        PoleSets x = new PoleSets();
        x.line(0, 0, 9);
        Scenes.repeat(x, 60, 0, 0);
        check.good(x, "cap(20)", x.cap(20), 1);
        check.good(x, "MASS", x.set(0, 1), 1200000);
        check.refused(x, "cap(21)", x.cap(21), 1);
        check.refused(x, "cap(0)", x.cap(0), 1);
        check.good(x, "MASS after refused ones", x.set(0, 1), 1200000);
        check.good(x, "cap(1)", x.cap(1), 20);
        check.good(x, "MASS", x.set(0, 1), 60000);
        check.good(x, "cap(1)", x.cap(1), 1);
    }

    private void slope() {
        check.sentence("`int slope(int direction, int dip, int friction, int side)`: The SLOPE: how many SETS SLIDE by it (1).");
        PoleSets e = new PoleSets();
        check.good(e, "of none", e.slope(359, 90, 89, 45), 0);
        PoleSets x = Scenes.threes(20, 35, 340, 35);
        check.good(x, "both", x.slope(0, 36, 34, 20), 2);
        check.good(x, "one", x.slope(1, 36, 34, 20), 1);
        check.good(x, "the other", x.slope(359, 36, 34, 20), 1);
        check.good(x, "which it is", x.risk(0), 2);
        check.refused(x, "slope(359, 36, 34, 46)", x.slope(1, 36, 34, 46), 1);
        check.refused(x, "slope(359, 36, 90, 20)", x.slope(1, 36, 90, 20), 1);
        check.refused(x, "slope(359, 0, 34, 20)", x.slope(1, 0, 34, 20), 1);
        check.refused(x, "slope(360, 36, 34, 20)", x.slope(360, 36, 34, 20), 1);
        check.good(x, "which it is still", x.risk(0), 2);
    }

    // ---- poles

    private void many() {
        check.sentence("`int many(int what)`: How many LINES (what 0), CRACKS (1), LIES that are not ALIKE (2), SETS (3), STRAYS (4) (1).");
        PoleSets e = new PoleSets();
        PoleSets x = Scenes.full();
        int[] most = {6, 60, 30, 30, 0};
        for (int what = 0; what <= 4; what++) {
            check.good(e, "of none: " + what, e.many(what), 0);
            check.good(x, "of all: " + what, x.many(what), most[what]);
        }
        check.refused(x, "many(-1)", x.many(-1), 1);
        check.refused(x, "many(5)", x.many(5), 1);
        check.refused(e, "many(5)", e.many(5), 1);
        x.link(1, 3);
        check.good(x, "all STRAYS", x.many(4), 60);
        PoleSets sixty = Scenes.lies();
        for (int i = 0; i < 60; i++) {
            Scenes.more(sixty, i * 6, 1 + i % 89);
        }
        check.good(sixty, "sixty LIES", sixty.many(2), 60);
    }

    private void of() {
        check.sentence("`int of(int crack, int what)`: Of a CRACK, what 0: LINE, 1: DIRECTION, 2: DIP, 3: AT, 4 to 6: x, y, z of its POLE,"
            + " 7: WEIGHT, 8: CRACKS whose LIES are ALIKE (it too), 9: the SET (NONE: a STRAY) (1; 2); STATUS tells NONE from -1.");
        PoleSets e = new PoleSets();
        check.refused(e, "of none", e.of(0, 0), 2);
        check.refused(e, "of none, what 10", e.of(0, 10), 1);
        PoleSets x = new PoleSets();
        for (int i = 0; i < 6; i++) {
            x.line(0, 0, 100000);
        }
        x.cap(20);
        x.crack(5, 274, 1, 100000);
        int[] due = {5, 274, 1, 100000, -1, 16, 999, 20000, 1, -1};
        for (int what = 0; what <= 9; what++) {
            check.good(x, "of(0, " + what + ")", x.of(0, what), due[what]);
        }
        check.refused(x, "of(0, -1)", x.of(0, -1), 1);
        check.refused(x, "of(0, 10)", x.of(0, 10), 1);
        check.refused(x, "of(1, 4)", x.of(1, 4), 2);
        check.refused(x, "of(-1, 4)", x.of(-1, 4), 2);
        check.refused(x, "of(-1, 10)", x.of(-1, 10), 1);
        PoleSets all = Scenes.repeat(Scenes.lies(), 60, 359, 90);
        check.good(all, "sixty ALIKE", all.of(59, 8), 60);
        check.good(all, "in the first SET", all.of(59, 9), 0);
        PoleSets full = Scenes.full();
        check.good(full, "in the last SET", full.of(full.member(29, 0), 9), 29);
    }

    private void along() {
        check.sentence("`int along(int line, int what)`: Of a LINE, what 0: TREND, 1: PLUNGE, 2: LENGTH, 3 to 5: x, y, z of its ARROW, 6:"
            + " CRACKS (1; 2); STATUS tells NONE from -1.");
        PoleSets e = new PoleSets();
        check.refused(e, "of none", e.along(0, 0), 2);
        check.refused(e, "of none, what 7", e.along(0, 7), 1);
        PoleSets x = new PoleSets();
        x.line(94, 89, 100000);
        x.line(0, 0, 1);
        int[] due = {94, 89, 100000, -1, 16, 999, 0};
        for (int what = 0; what <= 6; what++) {
            check.good(x, "along(0, " + what + ")", x.along(0, what), due[what]);
        }
        for (int i = 0; i < 60; i++) {
            x.crack(1, 0, 0, 0);
        }
        check.good(x, "sixty CRACKS", x.along(1, 6), 60);
        check.good(x, "none on the other", x.along(0, 6), 0);
        x.drop(0);
        check.good(x, "one fewer", x.along(1, 6), 59);
        check.refused(x, "along(0, -1)", x.along(0, -1), 1);
        check.refused(x, "along(0, 7)", x.along(0, 7), 1);
        check.refused(x, "along(2, 0)", x.along(2, 0), 2);
        check.refused(x, "along(-1, 0)", x.along(-1, 0), 2);
        check.refused(x, "along(2, 7)", x.along(2, 7), 1);
    }

    private void angle() {
        check.sentence("`int angle(int crack, int other)`: ANGLE of two CRACKS' POLES (2: no such ones; one and the same may be).");
        PoleSets e = new PoleSets();
        check.refused(e, "of none", e.angle(0, 0), 2);
        PoleSets x = Scenes.lies(0, 0, 0, 90, 180, 90);
        check.good(x, "one and the same", x.angle(2, 2), 0);
        check.good(x, "two ALIKE", x.angle(1, 2), 0);
        check.good(x, "the greatest there is", x.angle(0, 1), 90);
        check.good(x, "the greatest there is", x.angle(2, 0), 90);
        check.refused(x, "angle(0, 3)", x.angle(0, 3), 2);
        check.refused(x, "angle(3, 0)", x.angle(3, 0), 2);
        check.refused(x, "angle(3, 3)", x.angle(3, 3), 2);
        check.refused(x, "angle(-1, -1)", x.angle(-1, -1), 2);
    }

    private void near() {
        check.sentence("`int near(int crack, int angle)`: CRACKS whose POLES are NEAR a CRACK's by an angle, it too (1; 2).");
        PoleSets e = new PoleSets();
        check.refused(e, "of none", e.near(0, 0), 2);
        check.refused(e, "of none, angle 91", e.near(0, 91), 1);
        PoleSets one = Scenes.lies(10, 20);
        check.good(one, "it alone by 0", one.near(0, 0), 1);
        check.good(one, "it alone by 90", one.near(0, 90), 1);
        PoleSets x = Scenes.repeat(Scenes.lies(), 59, 0, 0);
        Scenes.more(x, 0, 90);
        check.good(x, "by 0", x.near(0, 0), 59);
        check.good(x, "by 89", x.near(0, 89), 59);
        check.good(x, "by 90", x.near(0, 90), 60);
        check.good(x, "by 90 of the last", x.near(59, 90), 60);
        check.refused(x, "near(0, -1)", x.near(0, -1), 1);
        check.refused(x, "near(60, 0)", x.near(60, 0), 2);
        check.refused(x, "near(60, 91)", x.near(60, 91), 1);
    }

    // ---- sets

    private void set() {
        check.sentence("`long set(int set, int what)`: Of a SET, what 0: how many members, 1: MASS, 2: DIRECTION of its MEAN's LIE, 3: DIP of"
            + " that, 4 to 6: x, y, z of MEAN, 7: LONG, 8: TIGHT, 9: CONE, 10: HALF, 11: 100 times the DIRECTION of SEED and its DIP"
            + " (1; 2); STATUS tells NONE from -1.");
        PoleSets e = new PoleSets();
        check.refused(e, "of none", e.set(0, 0), 2);
        check.refused(e, "of none, what 12", e.set(0, 12), 1);
        PoleSets x = new PoleSets();
        x.line(0, 0, 9);
        x.cap(20);
        Scenes.repeat(x, 56, 0, 0);
        Scenes.repeat(x, 4, 90, 1);
        long[] due = {60, 1200000, 0, 0, 0, -1, 999, 1199920, 1000000, 1, 1, 0};
        for (int what = 0; what <= 11; what++) {
            check.good(x, "set(0, " + what + ")", x.set(0, what), due[what]);
        }
        check.refused(x, "set(0, -1)", x.set(0, -1), 1);
        check.refused(x, "set(0, 12)", x.set(0, 12), 1);
        check.refused(x, "set(1, 5)", x.set(1, 5), 2);
        check.refused(x, "set(-1, 5)", x.set(-1, 5), 2);
        check.refused(x, "set(-1, 12)", x.set(-1, 12), 1);
        PoleSets full = Scenes.full();
        check.good(full, "the last of thirty", full.set(29, 0), 2);
        check.refused(full, "no thirty-first", full.set(30, 0), 2);
    }

    private void member() {
        check.sentence("`int member(int set, int k)`: The k-th member of a SET, rising by numbers (1: below 0; 2; 5).");
        PoleSets e = new PoleSets();
        check.refused(e, "of none", e.member(0, 0), 2);
        check.refused(e, "of none, below 0", e.member(0, -1), 1);
        PoleSets x = Scenes.repeat(Scenes.lies(), 60, 0, 0);
        check.good(x, "the first", x.member(0, 0), 0);
        check.good(x, "the last", x.member(0, 59), 59);
        check.refused(x, "one more", x.member(0, 60), 5);
        check.refused(x, "below 0", x.member(0, -1), 1);
        check.refused(x, "of no SET", x.member(1, 60), 2);
        check.refused(x, "of no SET, below 0", x.member(1, -1), 1);
        check.refused(x, "of a SET below 0", x.member(-1, 0), 2);
        PoleSets mixed = Scenes.lies(0, 90, 0, 0, 0, 90, 0, 0, 0, 0, 0, 90);
        int[] flat = {1, 3, 4};
        int[] upright = {0, 2, 5};
        for (int k = 0; k < 3; k++) {
            check.good(mixed, "rising", mixed.member(0, k), flat[k]);
            check.good(mixed, "rising", mixed.member(1, k), upright[k]);
        }
        mixed.drop(0);
        Scenes.more(mixed, 180, 90);
        check.good(mixed, "the last once more", mixed.member(1, 2), 5);
    }

    private void stray() {
        check.sentence("`int stray(int k)`: The k-th STRAY, rising (1: below 0; 5).");
        PoleSets e = new PoleSets();
        check.refused(e, "of none", e.stray(0), 5);
        check.refused(e, "of none, below 0", e.stray(-1), 1);
        PoleSets x = Scenes.full();
        check.refused(x, "all in SETS", x.stray(0), 5);
        x.link(1, 3);
        for (int k = 0; k < 60; k++) {
            check.due("stray " + k, x.stray(k), k);
        }
        check.refused(x, "one more", x.stray(60), 5);
        check.refused(x, "many more", x.stray(Integer.MAX_VALUE), 5);
        check.refused(x, "below 0", x.stray(-1), 1);
        PoleSets mixed = Scenes.lies(0, 90, 0, 0, 0, 45, 0, 0, 0, 0, 90, 90);
        check.good(mixed, "the first", mixed.stray(0), 0);
        check.good(mixed, "the second", mixed.stray(1), 2);
        check.good(mixed, "the third", mixed.stray(2), 5);
        check.refused(mixed, "no fourth", mixed.stray(3), 5);
    }

    private void apart() {
        check.sentence("`int apart(int set, int other)`: ANGLE of two SETS' MEANS (2).");
        PoleSets e = new PoleSets();
        check.refused(e, "of none", e.apart(0, 1), 2);
        PoleSets x = Scenes.threes(0, 0, 0, 90);
        check.good(x, "the greatest there is", x.apart(0, 1), 90);
        check.good(x, "the other way", x.apart(1, 0), 90);
        check.refused(x, "two that are one", x.apart(0, 0), 2);
        check.refused(x, "apart(0, 2)", x.apart(0, 2), 2);
        check.refused(x, "apart(2, 0)", x.apart(2, 0), 2);
        check.refused(x, "apart(-1, 0)", x.apart(-1, 0), 2);
        PoleSets across = Scenes.threes(0, 80, 180, 80);
        check.good(across, "across the rim", across.apart(0, 1), across.angle(0, 3));
        PoleSets full = Scenes.full();
        check.good(full, "the first and the last", full.apart(0, 29), full.apart(29, 0));
    }

    private void hangs() {
        check.sentence("`int hangs(int crack, int other)`: The least LINK (0 to 90) by which two CRACKS hang together (2: no such ones; one"
            + " and the same: 0).");
        PoleSets e = new PoleSets();
        check.refused(e, "of none", e.hangs(0, 0), 2);
        PoleSets x = Scenes.lies(0, 0, 0, 90, 180, 90);
        check.good(x, "one and the same", x.hangs(0, 0), 0);
        check.good(x, "two ALIKE", x.hangs(1, 2), 0);
        check.good(x, "the most there is", x.hangs(0, 1), 90);
        Scenes.more(x, 0, 45);
        check.good(x, "by one between", x.hangs(0, 1), 45);
        Scenes.more(x, 0, 1);
        check.good(x, "the least but 0", x.hangs(0, 4), 1);
        check.good(x, "a chain is as wide as its widest step", x.hangs(4, 2), 45);
        check.refused(x, "hangs(5, 5)", x.hangs(5, 5), 2);
        check.refused(x, "hangs(0, 5)", x.hangs(0, 5), 2);
        check.refused(x, "hangs(-1, 0)", x.hangs(-1, 0), 2);
        PoleSets long60 = Scenes.lies();
        for (int i = 0; i < 60; i++) {
            Scenes.more(long60, 0, 30 + i);
        }
        check.good(long60, "sixty in a chain", long60.hangs(0, 59), widest(long60));
    }

    private static int widest(PoleSets x) {
        int widest = 0;
        for (int i = 0; i + 1 < 60; i++) {
            widest = Math.max(widest, x.angle(i, i + 1));
        }
        return widest;
    }

    private void overlap() {
        check.sentence("`int overlap(int set, int other, int what)`: Of two SETS, what 0: 1 if ANGLE of their MEANS is no more than both"
            + " CONES together, else 0, 1: members of the first whose POLES are NEAR the other's MEAN by that one's CONE (1; 2).");
        PoleSets e = new PoleSets();
        check.refused(e, "of none", e.overlap(0, 1, 0), 2);
        check.refused(e, "of none, what 2", e.overlap(0, 1, 2), 1);
        PoleSets just = besideFan(53, 12);
        check.good(just, "ANGLE", just.apart(0, 1), 10);
        check.good(just, "both CONES", just.set(0, 9) + just.set(1, 9), 10);
        check.good(just, "no more", just.overlap(0, 1, 0), 1);
        check.good(just, "the other way", just.overlap(1, 0, 0), 1);
        check.good(just, "all three are NEAR by 10", just.overlap(1, 0, 1), 3);
        check.good(just, "none is NEAR by 0", just.overlap(0, 1, 1), 0);
        PoleSets before = Scenes.lies(53, 12, 53, 12, 53, 12, 0, 0, 0, 5, 0, 10, 0, 15, 0, 20);
        before.link(5, 3);
        check.good(before, "all three, told first", before.overlap(1, 0, 1), 3);
        PoleSets more = besideFan(53, 13);
        check.good(more, "ANGLE", more.apart(0, 1), 11);
        check.good(more, "both CONES", more.set(0, 9) + more.set(1, 9), 10);
        check.good(more, "more", more.overlap(0, 1, 0), 0);
        check.good(more, "none is NEAR by 10", more.overlap(1, 0, 1), 0);
        check.refused(more, "what -1", more.overlap(0, 1, -1), 1);
        check.refused(more, "what 2", more.overlap(0, 0, 2), 1);
        check.refused(more, "two that are one", more.overlap(1, 1, 0), 2);
        check.refused(more, "no such SET", more.overlap(0, 2, 1), 2);
        check.refused(more, "no such SET", more.overlap(-1, 0, 1), 2);
    }

    /** Dips from 0 to 20 towards 0, whose cone is 10, and three of another lie. */
    private static PoleSets besideFan(int direction, int dip) {
        PoleSets x = Scenes.lies(0, 0, 0, 5, 0, 10, 0, 15, 0, 20);
        x.link(5, 3);
        return Scenes.repeat(x, 3, direction, dip);
    }

    private void digest() {
        check.sentence("`int digest()`: A number told by SETS alone, which does not hang on the order in which CRACKS were told: 17; for"
            + " each SET times 31 and 100 times its LEAST LIE's DIRECTION and DIP, then times 31 and how many it has; then times 31 and"
            + " STRAYS (as ints).");
        PoleSets e = new PoleSets();
        check.good(e, "of none", e.digest(), 17 * 31);
        PoleSets strays = Scenes.lies(0, 0, 0, 45);
        check.good(strays, "STRAYS alone", strays.digest(), 17 * 31 + 2);
        PoleSets one = Scenes.threes(359, 89);
        check.good(one, "one SET", one.digest(), ((17 * 31 + 35989) * 31 + 3) * 31);
        PoleSets least = Scenes.lies(0, 40, 0, 45, 0, 50, 359, 44);
        least.link(5, 3);
        check.good(least, "by the least LIE, not by SEED", least.digest(), ((17 * 31 + 40) * 31 + 4) * 31);
        int due = 17;
        PoleSets full = Scenes.full();
        for (int i = 0; i < 30; i++) {
            due = due * 31 + 100 * 12 * i + 10 + 2 * i;
            due = due * 31 + 2;
        }
        check.good(full, "thirty SETS, beyond an int", full.digest(), due * 31);
        PoleSets back = new PoleSets();
        back.line(0, 0, 9);
        back.link(1, 2);
        for (int i = 59; i >= 0; i--) {
            back.crack(0, 12 * (i % 30), 10 + i % 30 * 2, 0);
        }
        check.good(back, "the other way round", back.digest(), due * 31);
    }

    private void without() {
        check.sentence("`int without(int crack)`: How many SETS there would be, were a CRACK left out (2).");
        PoleSets e = new PoleSets();
        check.refused(e, "of none", e.without(0), 2);
        PoleSets one = Scenes.lies(0, 0);
        check.good(one, "the only one", one.without(0), 0);
        PoleSets three = Scenes.threes(0, 0);
        check.good(three, "one of LEAST", three.without(2), 0);
        Scenes.more(three, 0, 0);
        check.good(three, "one of LEAST and one", three.without(3), 1);
        PoleSets chain = Scenes.lies(0, 10, 0, 20, 0, 30, 0, 40, 0, 50);
        chain.link(10, 2);
        int[] due = {1, 1, 2, 1, 1};
        for (int i = 0; i < 5; i++) {
            check.good(chain, "of a chain: " + i, chain.without(i), due[i]);
        }
        check.good(chain, "all are still there", chain.many(1), 5);
        check.good(chain, "and the SET", chain.set(0, 0), 5);
        check.refused(chain, "without(5)", chain.without(5), 2);
        check.refused(chain, "without(-1)", chain.without(-1), 2);
        PoleSets full = Scenes.full();
        check.good(full, "of thirty", full.without(59), 29);
    }

    private void bridges() {
        check.sentence("`int bridges(int what)`: CRACKS of SETS whose other members would not all hang together without it, what 0: how many,"
            + " 1: the first (1; 5 of 1).");
        PoleSets e = new PoleSets();
        check.good(e, "of none", e.bridges(0), 0);
        check.refused(e, "the first of none", e.bridges(1), 5);
        PoleSets two = Scenes.lies(0, 10, 0, 20);
        two.link(10, 2);
        check.good(two, "a SET of two has none", two.bridges(0), 0);
        check.refused(two, "nor a first", two.bridges(1), 5);
        Scenes.more(two, 0, 30);
        check.good(two, "a SET of three", two.bridges(0), 1);
        check.good(two, "the one between", two.bridges(1), 1);
        two.link(10, 4);
        check.good(two, "STRAYS are none", two.bridges(0), 0);
        PoleSets first = Scenes.lies(0, 20, 0, 10, 0, 30);
        check.good(first, "the first of all", first.bridges(0), 1);
        check.good(first, "the first of all", first.bridges(1), 0);
        PoleSets last = Scenes.lies(0, 10, 0, 30, 0, 20);
        check.good(last, "the last of all", last.bridges(0), 1);
        check.good(last, "the last of all", last.bridges(1), 2);
        PoleSets chain = Scenes.lies();
        chain.link(3, 2);
        for (int i = 0; i < 30; i++) {
            Scenes.more(chain, 0, 3 * i + 1);
        }
        check.good(chain, "as many as hang in a chain, but for its ends", chain.bridges(0), bridgesOf(chain, 30));
        check.good(chain, "the first of them", chain.bridges(1), 1);
        check.refused(chain, "bridges(-1)", chain.bridges(-1), 1);
        check.refused(chain, "bridges(2)", chain.bridges(2), 1);
    }

    /** A crack of one set is a bridge if more than one heap is left; LEAST is 2, so that single ones are strays. */
    private static int bridgesOf(PoleSets x, int cracks) {
        int found = 0;
        for (int i = 1; i + 1 < cracks; i++) {
            found += x.angle(i - 1, i + 1) > 3 ? 1 : 0;
        }
        return found;
    }

    private void nearestSet() {
        check.sentence("`int nearestSet(int crack, int what)`: Of a CRACK, in a SET or none, the SET whose MEAN has the least ANGLE with its"
            + " POLE, of like ones the first (what 0), that ANGLE (1) (1; 2; 5: no SETS).");
        PoleSets e = new PoleSets();
        check.refused(e, "of none", e.nearestSet(0, 0), 2);
        check.refused(e, "of none, what 2", e.nearestSet(0, 2), 1);
        PoleSets lone = Scenes.lies(0, 0, 0, 0);
        check.refused(lone, "no SETS", lone.nearestSet(0, 0), 5);
        check.refused(lone, "no SETS", lone.nearestSet(0, 1), 5);
        check.refused(lone, "no SETS, no such CRACK", lone.nearestSet(2, 0), 2);
        Scenes.more(lone, 0, 0, 0, 90);
        check.good(lone, "one SET", lone.nearestSet(3, 0), 0);
        check.good(lone, "the most there is", lone.nearestSet(3, 1), 90);
        check.good(lone, "its own", lone.nearestSet(2, 1), 0);
        int[][] between = {{29, 0, 29}, {30, 0, 30}, {31, 1, 29}};
        for (int[] each : between) {
            PoleSets x = Scenes.more(Scenes.threes(0, 0, 0, 60), 0, each[0]);
            check.good(x, "between two: " + each[0], x.nearestSet(6, 0), each[1]);
            check.good(x, "between two: " + each[0], x.nearestSet(6, 1), each[2]);
            check.refused(x, "what -1", x.nearestSet(0, -1), 1);
            check.refused(x, "what 2", x.nearestSet(0, 2), 1);
            check.refused(x, "nearestSet(7, 0)", x.nearestSet(7, 0), 2);
            check.refused(x, "nearestSet(-1, 1)", x.nearestSet(-1, 1), 2);
        }
    }

    private void would() {
        check.sentence("`int would(int link)`: How many SETS there would be by a LINK (1 to 45), LEAST as it is (1).");
        PoleSets e = new PoleSets();
        check.good(e, "of none", e.would(1), 0);
        check.good(e, "of none", e.would(45), 0);
        check.refused(e, "would(0)", e.would(0), 1);
        check.refused(e, "would(46)", e.would(46), 1);
        PoleSets x = Scenes.threes(0, 0, 0, 45);
        check.good(x, "would(1)", x.would(1), 2);
        check.good(x, "would(44)", x.would(44), 2);
        check.good(x, "would(45)", x.would(45), 1);
        check.refused(x, "would(-1)", x.would(-1), 1);
        check.good(x, "nothing has changed", x.many(3), 2);
        check.good(x, "by LEAST 6", x.link(1, 6), 1003);
        check.good(x, "would(44) by LEAST 6", x.would(44), 0);
        check.good(x, "would(45) by LEAST 6", x.would(45), 1);
        x.link(1, 7);
        check.good(x, "would(45) by LEAST 7", x.would(45), 0);
        PoleSets full = Scenes.full();
        check.good(full, "thirty", full.would(1), 30);
        check.good(full, "one", full.would(45), 1);
    }

    private void linkFor() {
        check.sentence("`int linkFor(int sets)`: The least LINK (1 to 45) by which there are so many SETS (0 and on) (1; 5: by none).");
        PoleSets e = new PoleSets();
        check.good(e, "no SETS of none", e.linkFor(0), 1);
        check.refused(e, "a SET of none", e.linkFor(1), 5);
        check.refused(e, "linkFor(-1)", e.linkFor(-1), 1);
        PoleSets x = Scenes.threes(0, 0, 0, 45);
        check.good(x, "the least", x.linkFor(2), 1);
        check.good(x, "the most", x.linkFor(1), 45);
        check.refused(x, "never none", x.linkFor(0), 5);
        check.refused(x, "never three", x.linkFor(3), 5);
        check.refused(x, "never so many", x.linkFor(Integer.MAX_VALUE), 5);
        check.refused(x, "linkFor(min)", x.linkFor(Integer.MIN_VALUE), 1);
        check.good(x, "LINK stays", x.link(10, 3), 1003);
        PoleSets beyond = Scenes.threes(0, 0, 0, 46);
        check.refused(beyond, "46 apart", beyond.linkFor(1), 5);
        PoleSets full = Scenes.full();
        check.good(full, "thirty", full.linkFor(30), 1);
        check.refused(full, "never thirty-one", full.linkFor(31), 5);
    }
}
