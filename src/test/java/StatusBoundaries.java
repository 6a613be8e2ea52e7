import java.util.ArrayList;
import java.util.List;

/** The document's part 5: which STATUS a call has, and that a call that is refused changes nothing else. */
final class StatusBoundaries {
    /** One number of a call: the least and the most that is taken, and the STATUS beyond either. */
    private static final class Range {
        final String name;
        final int[] others;
        final int index;
        final int least;
        final int most;
        final int below;
        final int above;

        Range(String name, int[] others, int index, int[] bounds) {
            this.name = name;
            this.others = others;
            this.index = index;
            this.least = bounds[0];
            this.most = bounds[1];
            this.below = bounds[2];
            this.above = bounds[3];
        }

        int[] with(int number) {
            int[] numbers = others.clone();
            numbers[index] = number;
            return numbers;
        }
    }

    private static final int[] DIRECTION = {0, 359, 1, 1};
    private static final int[] QUARTER = {0, 90, 1, 1};
    private static final int[] LENGTH = {1, 100000, 1, 1};
    private static final int[] LINE = {0, 2, 2, 2};
    private static final int[] CRACK = {0, 19, 2, 2};
    private static final int[] SET = {0, 4, 2, 2};

    private final Check check;
    private final List<Range> ranges = new ArrayList<>();
    private String untouched;

    StatusBoundaries(Check check) {
        this.check = check;
    }

    void look() {
        check.aside("==== 5.");
        check.aside("The constants: `NONE = -1`: None.");
        asides();
        tell();
        hear();
        numbers();
        noSuch();
        tooMany();
        none();
        good();
        changesNothing();
        orders();
        ownStatus();
    }

    private void asides() {
        check.aside("Ahead of the calls `line`, `crack`, `drop`, `link`, `cap`, `slope` the interface says: ---- what is told.");
        check.aside("Ahead of the calls `many`, `of`, `along`, `angle`, `near` the interface says: ---- poles.");
        check.aside("Ahead of the calls `set`, `member`, `stray`, `apart`, `hangs`, `overlap`, `digest`, `without`, `bridges`,"
            + " `nearestSet`, `would`, `linkFor` the interface says: ---- sets.");
        check.aside("Ahead of the calls `settled`, `settledIn`, `settledLie`, `thick`, `excess`, `rose`, `fabric`, `axis`, `nextLine`,"
            + " `blind`, `peak` the interface says: ---- settled, thick.");
        check.aside("Ahead of the calls `spacing`, `meets`, `block` the interface says: ---- spacing, blocks.");
        check.aside("Ahead of the calls `wedge`, `risk`, `safety`, `safest`, `steepest`, `fold`, `unfold` the interface says: ----"
            + " wedges, slopes.");
    }

    // ---- what every call takes, on the object that Scenes.rock() makes

    private void all(String name, int[] others, int[]... bounds) {
        for (int i = 0; i < bounds.length; i++) {
            ranges.add(new Range(name, others, i, bounds[i]));
        }
    }

    private static int[] at(int... numbers) {
        return numbers;
    }

    private static int[] upTo(int most) {
        return new int[] {0, most, 1, 1};
    }

    private void tell() {
        all("line", at(7, 8, 9), DIRECTION, QUARTER, LENGTH);
        all("crack", at(1, 7, 8, 9), LINE, DIRECTION, QUARTER, upTo(500));
        all("drop", at(3), CRACK);
        all("link", at(12, 4), new int[] {1, 45, 1, 1}, new int[] {2, 20, 1, 1});
        all("cap", at(3), new int[] {1, 20, 1, 1});
        all("slope", at(7, 50, 20, 10), DIRECTION, new int[] {1, 90, 1, 1}, upTo(89), upTo(45));
        all("many", at(1), upTo(4));
        all("of", at(3, 1), CRACK, upTo(9));
        all("along", at(1, 1), LINE, upTo(6));
        all("angle", at(3, 4), CRACK, CRACK);
        all("near", at(3, 10), CRACK, QUARTER);
        all("set", at(1, 1), SET, upTo(11));
        all("member", at(0, 1), SET, new int[] {0, 5, 1, 5});
        all("stray", at(1), new int[] {0, 1, 1, 5});
        all("hangs", at(3, 4), CRACK, CRACK);
        all("without", at(3), CRACK);
        all("bridges", at(0), upTo(1));
        all("nearestSet", at(3, 0), CRACK, upTo(1));
        all("would", at(10), new int[] {1, 45, 1, 1});
    }

    /** Two that are one are refused: what is changed of two sets is set beside the other, which is 1. */
    private void hear() {
        all("apart", at(1, 1), SET, SET);
        all("overlap", at(1, 1, 0), SET, SET);
        ranges.add(new Range("overlap", at(0, 1, 0), 2, upTo(1)));
        all("settled", at(20, 1), new int[] {1, 90, 1, 1}, upTo(2));
        all("settledIn", at(20, 3), new int[] {1, 90, 1, 1}, CRACK);
        all("settledLie", at(20, 3), new int[] {1, 90, 1, 1}, SET);
        all("thick", at(7, 8, 9), DIRECTION, QUARTER, QUARTER);
        all("excess", at(7, 8, 9), DIRECTION, QUARTER, QUARTER);
        all("blind", at(7, 8, 9), DIRECTION, QUARTER, QUARTER);
        all("rose", at(3, 1), upTo(17), upTo(1));
        all("fabric", at(3), upTo(5));
        ranges.add(new Range("axis", at(0, 0), 1, upTo(1)));
        ranges.add(new Range("axis", at(1, 0), 1, upTo(1)));
        all("nextLine", at(1), upTo(2));
        all("peak", at(10, 1), QUARTER, upTo(2));
        all("spacing", at(0, 0, 1), SET, LINE, upTo(2));
        all("meets", at(0, 0, 7, 8, 9), SET, LINE, DIRECTION, QUARTER, LENGTH);
        ranges.add(new Range("block", at(1, 2, 3, 7, 8, 9), 0, new int[] {0, 4, 2, 2}));
        ranges.add(new Range("block", at(2, 1, 3, 7, 8, 9), 1, new int[] {0, 4, 2, 2}));
        ranges.add(new Range("block", at(2, 3, 1, 7, 8, 9), 2, new int[] {0, 4, 2, 2}));
        for (int i = 3; i < 6; i++) {
            ranges.add(new Range("block", at(1, 2, 3, 7, 8, 9), i, LENGTH));
        }
        all("wedge", at(1, 1, 0), SET, SET);
        ranges.add(new Range("wedge", at(0, 1, 0), 2, upTo(4)));
        all("risk", at(1), upTo(3));
        all("safety", at(1), SET);
        all("safest", at(1), upTo(1));
        all("fold", at(1, 1, 7, 8), SET, SET);
        ranges.add(new Range("fold", at(0, 1, 7, 8), 2, DIRECTION));
        ranges.add(new Range("fold", at(0, 1, 7, 8), 3, new int[] {-180, 180, 1, 1}));
        all("unfold", at(1, 1, 7, 0), SET, SET);
        ranges.add(new Range("unfold", at(0, 1, 7, 0), 2, DIRECTION));
        ranges.add(new Range("unfold", at(0, 1, 7, 0), 3, upTo(1)));
    }

    // ---- each STATUS

    private void numbers() {
        check.sentence("STATUS of a call is the first of these that holds: 1 a number that can't be (below 0, too, of one that counts).");
        for (Range range : ranges) {
            if (range.below == 1) {
                refusedBy(range, range.least - 1, 1);
                refusedBy(range, Integer.MIN_VALUE, 1);
            }
            if (range.above == 1) {
                refusedBy(range, range.most + 1, 1);
                refusedBy(range, Integer.MAX_VALUE, 1);
            }
        }
        PoleSets x = Scenes.rock();
        check.refused(x, "linkFor(-1): it counts", x.linkFor(-1), 1);
        check.refused(x, "member(0, -1): it counts", x.member(0, -1), 1);
        check.refused(x, "stray(-1): it counts", x.stray(-1), 1);
        check.refused(x, "crack(0, 0, 0, -1): it counts", x.crack(0, 0, 0, -1), 1);
    }

    private void refusedBy(Range range, int number, int status) {
        PoleSets x = Scenes.rock();
        check.refused(x, range.name + ": " + number + " at " + range.index, Scenes.ask(x, range.name, range.with(number)), status);
    }

    private void noSuch() {
        check.sentence("2 no such LINE, CRACK, SET (or two that are one).");
        for (Range range : ranges) {
            if (range.below == 2) {
                refusedBy(range, range.least - 1, 2);
                refusedBy(range, range.most + 1, 2);
                refusedBy(range, Integer.MIN_VALUE, 2);
                refusedBy(range, Integer.MAX_VALUE, 2);
            }
        }
        PoleSets x = Scenes.rock();
        for (int set = 0; set < 5; set++) {
            check.refused(x, "apart", x.apart(set, set), 2);
            check.refused(x, "overlap", x.overlap(set, set, 0), 2);
            check.refused(x, "wedge", x.wedge(set, set, 0), 2);
            check.refused(x, "fold", x.fold(set, set, 0, 0), 2);
            check.refused(x, "unfold", x.unfold(set, set, 0, 0), 2);
            check.refused(x, "block", x.block(set, set, (set + 1) % 5, 1, 1, 1), 2);
            check.refused(x, "block", x.block(set, (set + 1) % 5, set, 1, 1, 1), 2);
            check.refused(x, "block", x.block((set + 1) % 5, set, set, 1, 1, 1), 2);
        }
        check.good(x, "CRACKS may be one", x.angle(3, 3), 0);
        check.good(x, "CRACKS may be one", x.hangs(3, 3), 0);
    }

    private void tooMany() {
        check.sentence("3 one too many.");
        PoleSets x = Scenes.full();
        check.refused(x, "a seventh LINE", x.line(0, 0, 1), 3);
        check.refused(x, "a sixty-first CRACK", x.crack(0, 0, 0, 0), 3);
        x.drop(59);
        check.refused(x, "a seventh LINE still", x.line(0, 0, 1), 3);
        check.good(x, "a sixtieth CRACK", x.crack(0, 0, 0, 0), 59);
        check.refused(x, "a sixty-first CRACK", x.crack(0, 0, 0, 0), 3);
        PoleSets told = Scenes.full();
        told.line(0, 0, 1);
        told.crack(0, 0, 0, 0);
        check.due("they change nothing", Scenes.portrait(told).equals(Scenes.portrait(Scenes.full())) ? 1 : 0, 1);
    }

    private void none() {
        check.sentence("5 there is none.");
        PoleSets x = Scenes.rock();
        check.refused(x, "member(0, 6)", x.member(0, 6), 5);
        check.refused(x, "stray(2)", x.stray(2), 5);
        check.refused(x, "linkFor(6)", x.linkFor(6), 5);
        check.refused(x, "linkFor(0)", x.linkFor(0), 5);
        check.refused(x, "spacing(1, 1, 0)", x.spacing(1, 1, 0), 5);
        check.refused(x, "meets(1, 1, 0, 0, 1)", x.meets(1, 1, 0, 0, 1), 5);
        x.slope(180, 10, 80, 0);
        check.refused(x, "risk(3)", x.risk(3), 5);
        x.link(45, 2);
        check.refused(x, "bridges(1)", x.bridges(1), 5);
        x.link(1, 20);
        check.refused(x, "nearestSet(0, 0)", x.nearestSet(0, 0), 5);
        check.refused(x, "nearestSet(0, 1)", x.nearestSet(0, 1), 5);
        PoleSets e = new PoleSets();
        for (int what = 0; what <= 5; what++) {
            check.refused(e, "fabric(" + what + ")", e.fabric(what), 5);
        }
        for (int what = 0; what <= 2; what++) {
            check.refused(e, "nextLine(" + what + ")", e.nextLine(what), 5);
            check.refused(e, "peak(90, " + what + ")", e.peak(90, what), 5);
            check.refused(e, "axis(.., " + what % 2 + ")", e.axis(what == 0, what % 2), 5);
        }
        check.refused(e, "stray(0)", e.stray(0), 5);
        check.refused(e, "bridges(1)", e.bridges(1), 5);
        check.refused(e, "risk(3)", e.risk(3), 5);
        check.refused(e, "linkFor(1)", e.linkFor(1), 5);
    }

    private void good() {
        check.sentence("0 else.");
        for (Range range : ranges) {
            for (int number : new int[] {range.least, range.most}) {
                PoleSets x = Scenes.rock();
                x.many(-1);
                long first = Scenes.ask(x, range.name, range.with(number));
                String call = range.name + " with " + number + " at " + range.index;
                check.due("STATUS of " + call, x.status(), 0);
                PoleSets late = Scenes.rock();
                Scenes.read(late);
                check.due("after much else was asked: " + call, Scenes.ask(late, range.name, range.with(number)), first);
            }
        }
        for (String name : new String[] {"digest", "steepest"}) {
            PoleSets x = Scenes.rock();
            x.many(-1);
            long first = Scenes.ask(x, name);
            check.due("STATUS of " + name, x.status(), 0);
            PoleSets late = Scenes.rock();
            Scenes.read(late);
            check.due("after much else was asked: " + name, Scenes.ask(late, name), first);
        }
    }

    // ---- what a refused call leaves as it is

    private void changesNothing() {
        check.sentence("With another STATUS than 0 a call gives NONE, and changes nothing else.");
        check.due("NONE", PoleSets.NONE, -1);
        untouched = Scenes.portrait(Scenes.rock());
        changesSomething("line", 1, 1, 1);
        changesSomething("crack", 1, 7, 8, 9);
        changesSomething("drop", 3);
        changesSomething("link", 12, 3);
        changesSomething("link", 10, 4);
        changesSomething("cap", 3);
        changesSomething("slope", 7, 60, 30, 20);
        changesSomething("slope", 0, 50, 30, 20);
        changesSomething("slope", 0, 60, 20, 20);
        changesSomething("slope", 0, 60, 30, 10);
        for (Range range : ranges) {
            leavesAll(range.name, range.below, range.with(range.least - 1));
            leavesAll(range.name, range.above, range.with(range.most + 1));
            leavesAll(range.name, range.above, range.with(Integer.MAX_VALUE));
        }
        leavesAll("apart", 2, 1, 1);
        leavesAll("block", 2, 1, 1, 2, 3, 4, 5);
        leavesAll("wedge", 2, 1, 1, 0);
        leavesAll("fold", 2, 1, 1, 0, 0);
        leavesAll("unfold", 2, 1, 1, 0, 0);
        leavesAll("spacing", 5, 1, 1, 0);
        leavesAll("linkFor", 5, 0);
        leavesAll("linkFor", 1, -1);
        leavesAll("linkFor", 5, Integer.MAX_VALUE);
    }

    /** So that a portrait that stays the same tells something. */
    private void changesSomething(String name, int... numbers) {
        PoleSets x = Scenes.rock();
        Scenes.ask(x, name, numbers);
        check.due(name + " is seen", Scenes.portrait(x).equals(untouched) ? 1 : 0, 0);
    }

    private void leavesAll(String name, int status, int... numbers) {
        PoleSets x = Scenes.rock();
        StringBuilder call = new StringBuilder(name);
        for (int number : numbers) {
            call.append(' ').append(number);
        }
        check.refused(x, call.toString(), Scenes.ask(x, name, numbers), status);
        check.due("what stays after " + call, Scenes.portrait(x).equals(untouched) ? 1 : 0, 1);
    }

    /** Of two numbers that are both wrong, the lesser STATUS is told; only AT above LENGTH comes after LINE. */
    private void orders() {
        for (Range one : ranges) {
            for (Range two : ranges) {
                boolean late = one.name.equals("crack") && one.index == 0 && two.index == 3;
                if (one.name.equals(two.name) && one.index < two.index) {
                    bothWrong(one, one.least - 1, two, two.least - 1, Math.min(one.below, two.below));
                    bothWrong(one, one.most + 1, two, two.least - 1, Math.min(one.above, two.below));
                    bothWrong(one, one.least - 1, two, two.most + 1, late ? 2 : Math.min(one.below, two.above));
                    bothWrong(one, one.most + 1, two, two.most + 1, late ? 2 : Math.min(one.above, two.above));
                }
            }
        }
        PoleSets full = Scenes.full();
        check.refused(full, "a number before too many", full.line(0, 0, 0), 1);
        check.refused(full, "a number before too many", full.crack(0, 0, 91, 0), 1);
        check.refused(full, "no such LINE before too many", full.crack(6, 0, 0, 0), 2);
        check.refused(full, "AT before too many", full.crack(0, 0, 0, 1001), 1);
        PoleSets e = new PoleSets();
        check.refused(e, "a number before none", e.fabric(6), 1);
        check.refused(e, "a number before none", e.axis(true, 2), 1);
        check.refused(e, "a number before none", e.nextLine(3), 1);
        check.refused(e, "a number before none", e.peak(91, 0), 1);
        check.refused(e, "a number before none", e.bridges(2), 1);
        check.refused(e, "a number before none", e.risk(4), 1);
        check.refused(e, "no such CRACK before none", e.nearestSet(0, 0), 2);
        PoleSets x = Scenes.rock();
        check.refused(x, "a number before two that are one", x.overlap(1, 1, 2), 1);
        check.refused(x, "a number before two that are one", x.block(1, 1, 1, 0, 1, 1), 1);
    }

    private void bothWrong(Range one, int first, Range two, int second, int status) {
        int[] numbers = one.with(first);
        numbers[two.index] = second;
        PoleSets x = Scenes.rock();
        String call = one.name + ": " + first + " at " + one.index + ", " + second + " at " + two.index;
        check.refused(x, call, Scenes.ask(x, one.name, numbers), status);
    }

    private void ownStatus() {
        check.sentence("status() has none.");
        PoleSets x = Scenes.rock();
        int[][] asked = {{0, -1, 1}, {9, 0, 2}, {0, 9, 5}, {0, 0, 0}};
        for (int[] each : asked) {
            x.member(each[0], each[1]);
            for (int i = 0; i < 3; i++) {
                check.due("status() asked " + i + " times before", x.status(), each[2]);
            }
        }
    }
}
