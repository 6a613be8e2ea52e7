/** Groups cracks in rock by how they lie; the document's promises say what each call answers. */
public final class PoleSets {
    public static final int NONE = -1;

    private static final int GOOD = 0;
    private static final int BAD_NUMBER = 1;
    private static final int NO_SUCH = 2;
    private static final int TOO_MANY = 3;
    private static final int THERE_IS_NONE = 5;

    private static final int MOST_LINES = 6;
    private static final int MOST_CRACKS = 60;
    /** A set has two members at least, so sixty cracks never make more. */
    private static final int MOST_SETS = 30;
    private static final int LONGEST = 100000;
    private static final int MOST_LINK = 45;
    private static final int MOST_ROUNDS = 12;
    private static final int THOUSAND = 1000;
    private static final int MILLION = 1000000;
    /** More than any count, weight or number of a lie here. */
    private static final int ABOVE_ALL = 1 << 30;

    private final Circle circle;
    private final Survey survey;
    private final Grouping grouping;
    private final Settling settling;
    private final Scan scan;
    private final Hazards hazards;
    private final Folding folding;
    /** What a call needs of a lie or a line that was not told before. */
    private final Vector asked;
    private int status;

    public PoleSets() {
        circle = new Circle();
        survey = new Survey(circle);
        grouping = new Grouping(survey, circle);
        settling = new Settling(survey, grouping, circle);
        scan = new Scan(survey, circle);
        hazards = new Hazards(grouping, circle);
        folding = new Folding(survey, grouping, circle);
        asked = new Vector();
        status = GOOD;
    }

    public int status() {
        return status;
    }

    // ---- what is told

    public int line(int trend, int plunge, int length) {
        if (!isLine(trend, plunge, length)) {
            return refuse(BAD_NUMBER);
        }
        if (survey.lines >= MOST_LINES) {
            return refuse(TOO_MANY);
        }
        return answer(survey.addLine(trend, plunge, length));
    }

    public int crack(int line, int direction, int dip, int at) {
        if (!isLie(direction, dip) || at < 0) {
            return refuse(BAD_NUMBER);
        }
        if (!survey.hasLine(line)) {
            return refuse(NO_SUCH);
        }
        if (at > survey.lengths[line]) {
            return refuse(BAD_NUMBER);
        }
        if (survey.count >= MOST_CRACKS) {
            return refuse(TOO_MANY);
        }
        return answer(survey.addCrack(line, direction, dip, at));
    }

    public int drop(int crack) {
        if (!survey.hasCrack(crack)) {
            return refuse(NO_SUCH);
        }
        survey.removeCrack(crack);
        return answer(survey.count);
    }

    public int link(int link, int least) {
        if (!within(link, 1, MOST_LINK) || !within(least, 2, 20)) {
            return refuse(BAD_NUMBER);
        }
        int was = 100 * grouping.link + grouping.least;
        grouping.groupBy(link, least);
        return answer(was);
    }

    public int cap(int cap) {
        if (!within(cap, 1, 20)) {
            return refuse(BAD_NUMBER);
        }
        int was = survey.cap;
        survey.weighBy(cap);
        return answer(was);
    }

    public int slope(int direction, int dip, int friction, int side) {
        if (!within(direction, 0, 359) || !within(dip, 1, 90)) {
            return refuse(BAD_NUMBER);
        }
        if (!within(friction, 0, 89) || !within(side, 0, 45)) {
            return refuse(BAD_NUMBER);
        }
        hazards.cut(direction, dip, friction, side);
        grouping.measureAll();
        return answer(Integer.bitCount(hazards.slidingSets(direction, dip)));
    }

    // ---- poles

    public int many(int what) {
        grouping.refresh();
        switch (what) {
            case 0:
                return answer(survey.lines);
            case 1:
                return answer(survey.count);
            case 2:
                return answer(survey.countLies());
            case 3:
                return answer(grouping.sets);
            case 4:
                return answer(grouping.countStrays());
            default:
                return refuse(BAD_NUMBER);
        }
    }

    public int of(int crack, int what) {
        if (!within(what, 0, 9)) {
            return refuse(BAD_NUMBER);
        }
        if (!survey.hasCrack(crack)) {
            return refuse(NO_SUCH);
        }
        if (what == 8) {
            return answer(survey.countAlike(crack));
        }
        if (what == 9) {
            grouping.refresh();
            return answer(grouping.places[crack]);
        }
        return answer(survey.cracks[crack].tell(what));
    }

    public int along(int line, int what) {
        if (!within(what, 0, 6)) {
            return refuse(BAD_NUMBER);
        }
        if (!survey.hasLine(line)) {
            return refuse(NO_SUCH);
        }
        return answer(survey.tellLine(line, what));
    }

    public int angle(int crack, int other) {
        if (!survey.hasCrack(crack) || !survey.hasCrack(other)) {
            return refuse(NO_SUCH);
        }
        return answer(survey.angleBetween(crack, other));
    }

    public int near(int crack, int angle) {
        if (!within(angle, 0, 90)) {
            return refuse(BAD_NUMBER);
        }
        if (!survey.hasCrack(crack)) {
            return refuse(NO_SUCH);
        }
        return answer(survey.countNear(crack, angle));
    }

    // ---- sets

    public long set(int set, int what) {
        if (!within(what, 0, 11)) {
            return refuse(BAD_NUMBER);
        }
        if (!grouping.hasSet(set)) {
            return refuse(NO_SUCH);
        }
        status = GOOD;
        return grouping.measured(set).tell(what);
    }

    public int member(int set, int k) {
        if (k < 0) {
            return refuse(BAD_NUMBER);
        }
        if (!grouping.hasSet(set)) {
            return refuse(NO_SUCH);
        }
        return answerOrNothing(grouping.findPlaced(set, k));
    }

    public int stray(int k) {
        if (k < 0) {
            return refuse(BAD_NUMBER);
        }
        grouping.refresh();
        return answerOrNothing(grouping.findPlaced(NONE, k));
    }

    public int apart(int set, int other) {
        if (!areTwoSets(set, other)) {
            return refuse(NO_SUCH);
        }
        grouping.measureAll();
        return answer(grouping.angleOfMeans(set, other));
    }

    public int hangs(int crack, int other) {
        if (!survey.hasCrack(crack) || !survey.hasCrack(other)) {
            return refuse(NO_SUCH);
        }
        return answer(grouping.leastLink(crack, other));
    }

    public int overlap(int set, int other, int what) {
        if (!within(what, 0, 1)) {
            return refuse(BAD_NUMBER);
        }
        if (!areTwoSets(set, other)) {
            return refuse(NO_SUCH);
        }
        grouping.measureAll();
        if (what == 1) {
            return answer(grouping.countInCone(set, other));
        }
        return answer(grouping.conesMeet(set, other) ? 1 : 0);
    }

    public int digest() {
        grouping.refresh();
        return answer(grouping.fingerprint());
    }

    public int without(int crack) {
        if (!survey.hasCrack(crack)) {
            return refuse(NO_SUCH);
        }
        return answer(grouping.countSets(grouping.link, crack));
    }

    public int bridges(int what) {
        if (!within(what, 0, 1)) {
            return refuse(BAD_NUMBER);
        }
        grouping.refresh();
        grouping.findBridges();
        if (what == 1) {
            return answerOrNothing(grouping.firstBridge);
        }
        return answer(grouping.bridgeCount);
    }

    public int nearestSet(int crack, int what) {
        if (!within(what, 0, 1)) {
            return refuse(BAD_NUMBER);
        }
        if (!survey.hasCrack(crack)) {
            return refuse(NO_SUCH);
        }
        grouping.measureAll();
        Vector pole = survey.cracks[crack].pole;
        int nearest = circle.nearestOf(pole, grouping.means, grouping.sets);
        if (nearest < 0) {
            return refuse(THERE_IS_NONE);
        }
        return answer(what == 0 ? nearest : circle.angleOf(pole, grouping.means[nearest]));
    }

    public int would(int link) {
        if (!within(link, 1, MOST_LINK)) {
            return refuse(BAD_NUMBER);
        }
        grouping.refresh();
        return answer(grouping.countBy(link));
    }

    public int linkFor(int sets) {
        if (sets < 0) {
            return refuse(BAD_NUMBER);
        }
        grouping.refresh();
        for (int link = 1; link <= MOST_LINK; link++) {
            if (grouping.countBy(link) == sets) {
                return answer(link);
            }
        }
        return refuse(THERE_IS_NONE);
    }

    // ---- settled, thick

    public int settled(int reach, int what) {
        if (!within(reach, 1, 90) || !within(what, 0, 2)) {
            return refuse(BAD_NUMBER);
        }
        grouping.measureAll();
        settling.settle(reach);
        if (what == 0) {
            return answer(settling.rounds);
        }
        return answer(what == 1 ? settling.countMoved() : settling.countNowhere());
    }

    public int settledIn(int reach, int crack) {
        if (!within(reach, 1, 90)) {
            return refuse(BAD_NUMBER);
        }
        if (!survey.hasCrack(crack)) {
            return refuse(NO_SUCH);
        }
        grouping.measureAll();
        settling.settle(reach);
        return answer(settling.places[crack]);
    }

    public int settledLie(int reach, int set) {
        if (!within(reach, 1, 90)) {
            return refuse(BAD_NUMBER);
        }
        if (!grouping.hasSet(set)) {
            return refuse(NO_SUCH);
        }
        grouping.measureAll();
        settling.settle(reach);
        return answer(circle.lieOf(settling.means[set]));
    }

    public int thick(int direction, int dip, int angle) {
        if (!isLie(direction, dip) || !within(angle, 0, 90)) {
            return refuse(BAD_NUMBER);
        }
        circle.poleInto(direction, dip, asked);
        return answer(survey.thickAt(asked, angle));
    }

    public int excess(int direction, int dip, int angle) {
        if (!isLie(direction, dip) || !within(angle, 0, 90)) {
            return refuse(BAD_NUMBER);
        }
        circle.poleInto(direction, dip, asked);
        long even = survey.massOfAll() * (THOUSAND - circle.cosine(angle)) / THOUSAND;
        return answer((int) (survey.thickAt(asked, angle) - even));
    }

    public int rose(int petal, int what) {
        if (!within(petal, 0, 17) || !within(what, 0, 1)) {
            return refuse(BAD_NUMBER);
        }
        return answer(survey.inPetal(petal, what == 1));
    }

    public int fabric(int what) {
        if (!within(what, 0, 5)) {
            return refuse(BAD_NUMBER);
        }
        if (survey.count == 0) {
            return refuse(THERE_IS_NONE);
        }
        scan.weave();
        return answer((int) scan.weft[what]);
    }

    public int axis(boolean most, int what) {
        if (!within(what, 0, 1)) {
            return refuse(BAD_NUMBER);
        }
        if (survey.count == 0) {
            return refuse(THERE_IS_NONE);
        }
        scan.findAxes();
        return answer(most ? scan.cluster[what] : scan.girdle[what]);
    }

    public int nextLine(int what) {
        if (!within(what, 0, 2)) {
            return refuse(BAD_NUMBER);
        }
        if (survey.count == 0) {
            return refuse(THERE_IS_NONE);
        }
        scan.findBestLine();
        return answer(scan.bestLine[what]);
    }

    public int blind(int direction, int dip, int angle) {
        if (!isLie(direction, dip) || !within(angle, 0, 90)) {
            return refuse(BAD_NUMBER);
        }
        circle.poleInto(direction, dip, asked);
        return answer(survey.blindLines(asked, angle));
    }

    public int peak(int angle, int what) {
        if (!within(angle, 0, 90) || !within(what, 0, 2)) {
            return refuse(BAD_NUMBER);
        }
        if (survey.count == 0) {
            return refuse(THERE_IS_NONE);
        }
        scan.findThickest(angle);
        return answer(scan.thickest[what]);
    }

    // ---- spacing, blocks

    public int spacing(int set, int line, int what) {
        if (!within(what, 0, 2)) {
            return refuse(BAD_NUMBER);
        }
        if (!grouping.hasSet(set) || !survey.hasLine(line)) {
            return refuse(NO_SUCH);
        }
        int gaps = grouping.countOn(set, line) - 1;
        if (gaps < 1) {
            return refuse(THERE_IS_NONE);
        }
        if (what == 0) {
            return answer(gaps);
        }
        return answer(what == 1 ? grouping.apparentGap(set, line) : grouping.trueGap(set, line));
    }

    public int meets(int set, int line, int trend, int plunge, int length) {
        if (!isLine(trend, plunge, length)) {
            return refuse(BAD_NUMBER);
        }
        if (!grouping.hasSet(set) || !survey.hasLine(line)) {
            return refuse(NO_SUCH);
        }
        if (grouping.countOn(set, line) < 2) {
            return refuse(THERE_IS_NONE);
        }
        int gap = grouping.trueGap(set, line);
        if (gap == 0) {
            return refuse(THERE_IS_NONE);
        }
        circle.arrowInto(trend, plunge, asked);
        long across = length * slant(grouping.measured(set).mean, asked) / THOUSAND;
        return answer((int) parted(across, gap));
    }

    public long block(int a, int b, int c, int one, int two, int three) {
        if (!within(one, 1, LONGEST) || !within(two, 1, LONGEST) || !within(three, 1, LONGEST)) {
            return refuse(BAD_NUMBER);
        }
        if (!areTwoSets(a, b) || !areTwoSets(a, c) || !areTwoSets(b, c)) {
            return refuse(NO_SUCH);
        }
        grouping.measureAll();
        asked.putCross(grouping.means[b], grouping.means[c]);
        long volume = Math.abs(grouping.means[a].dot(asked)) / THOUSAND;
        if (volume == 0) {
            return refuse(THERE_IS_NONE);
        }
        status = GOOD;
        return parted((long) one * two * three * THOUSAND, volume);
    }

    // ---- wedges, slopes

    public int wedge(int set, int other, int what) {
        if (!within(what, 0, 4)) {
            return refuse(BAD_NUMBER);
        }
        if (!areTwoSets(set, other)) {
            return refuse(NO_SUCH);
        }
        grouping.measureAll();
        if (!hazards.wedgeInto(Math.min(set, other), Math.max(set, other), asked)) {
            return refuse(THERE_IS_NONE);
        }
        if (what >= 2) {
            return answer((int) asked.number(what - 2));
        }
        int trend = circle.trendOf(asked);
        return answer(what == 0 ? trend : circle.plungeOf(asked, trend));
    }

    public int risk(int what) {
        grouping.measureAll();
        hazards.findWedges();
        switch (what) {
            case 0:
                return answer(hazards.slidingSets(hazards.facing, hazards.steepness));
            case 1:
                return answer(hazards.topplingSets(hazards.facing, hazards.steepness));
            case 2:
                return answer(hazards.countWedges(hazards.facing, hazards.steepness));
            case 3:
                return answerOrNothing(hazards.firstCouple());
            default:
                return refuse(BAD_NUMBER);
        }
    }

    public int safety(int set) {
        if (!grouping.hasSet(set)) {
            return refuse(NO_SUCH);
        }
        int dip = grouping.measured(set).dip;
        if (dip == 0) {
            return refuse(THERE_IS_NONE);
        }
        return answer(hazards.holding(dip));
    }

    public int safest(int what) {
        if (!within(what, 0, 1)) {
            return refuse(BAD_NUMBER);
        }
        grouping.measureAll();
        hazards.findWedges();
        int best = 0;
        int fewest = ABOVE_ALL;
        for (int direction = 0; direction < 360; direction += 10) {
            int hazardous = hazards.countAll(direction, hazards.steepness);
            if (hazardous < fewest) {
                fewest = hazardous;
                best = direction;
            }
        }
        return answer(what == 0 ? best : fewest);
    }

    public int steepest() {
        grouping.measureAll();
        hazards.findWedges();
        int dip = 0;
        for (int next = 1; next <= 90; next++) {
            if (hazards.countAll(hazards.facing, next) > 0) {
                break;
            }
            dip = next;
        }
        return answer(dip);
    }

    public int fold(int set, int other, int trend, int g) {
        if (!within(trend, 0, 359) || !within(g, -180, 180)) {
            return refuse(BAD_NUMBER);
        }
        if (!areTwoSets(set, other)) {
            return refuse(NO_SUCH);
        }
        grouping.measureAll();
        return answer(folding.tightBy(set, other, trend, g));
    }

    public int unfold(int set, int other, int trend, int what) {
        if (!within(trend, 0, 359) || !within(what, 0, 1)) {
            return refuse(BAD_NUMBER);
        }
        if (!areTwoSets(set, other)) {
            return refuse(NO_SUCH);
        }
        grouping.measureAll();
        int best = 0;
        int tightest = NONE;
        for (int g = 0; g <= 90; g++) {
            int tight = folding.tightBy(set, other, trend, g);
            if (tight > tightest) {
                tightest = tight;
                best = g;
            }
        }
        return answer(what == 0 ? best : tightest);
    }

    // ---- what all calls share

    private int answer(int value) {
        status = GOOD;
        return value;
    }

    private int refuse(int why) {
        status = why;
        return NONE;
    }

    /** For numbers that are never below 0 themselves, so that NONE can mean that none was found. */
    private int answerOrNothing(int found) {
        return found < 0 ? refuse(THERE_IS_NONE) : answer(found);
    }

    private boolean areTwoSets(int set, int other) {
        return set != other && grouping.hasSet(set) && grouping.hasSet(other);
    }

    private static boolean within(int number, int least, int most) {
        return number >= least && number <= most;
    }

    private static boolean isLie(int direction, int dip) {
        return within(direction, 0, 359) && within(dip, 0, 90);
    }

    private static boolean isLine(int trend, int plunge, int length) {
        return within(trend, 0, 359) && within(plunge, 0, 90) && within(length, 1, LONGEST);
    }

    /** A quotient cut towards 0; the guard keeps the machine from ever throwing. */
    private static long parted(long whole, long by) {
        return by == 0 ? 0 : whole / by;
    }

    /** Right up to 4.6e18: one bit more and a trial's square would wrap around; nothing here is above 1.5e18. */
    private static long root(long square) {
        long found = 0;
        // Most roots are of weights below 2^32, whose bits end sooner.
        for (long bit = square < 1L << 32 ? 1L << 15 : 1L << 30; bit > 0; bit >>= 1) {
            long trial = found + bit;
            if (trial * trial <= square) {
                found = trial;
            }
        }
        return found;
    }

    /** The document's c: a thousandfold cosine of two vectors, without sign. */
    private static long slant(Vector a, Vector b) {
        long dot = a.dot(b);
        return root(parted(MILLION * dot * dot, a.square() * b.square()));
    }

    private static int plainDirection(int direction, int dip) {
        if (dip == 0) {
            return 0;
        }
        return dip == 90 ? direction % 180 : direction;
    }

    private static int lieNumber(int direction, int dip) {
        return 100 * direction + dip;
    }

    private static final class Vector {
        long x;
        long y;
        long z;

        void put(long newX, long newY, long newZ) {
            x = newX;
            y = newY;
            z = newZ;
        }

        void copy(Vector other) {
            put(other.x, other.y, other.z);
        }

        long number(int which) {
            if (which == 0) {
                return x;
            }
            return which == 1 ? y : z;
        }

        long dot(Vector other) {
            return x * other.x + y * other.y + z * other.z;
        }

        long square() {
            return x * x + y * y + z * z;
        }

        boolean isZero() {
            return x == 0 && y == 0 && z == 0;
        }

        void putCross(Vector a, Vector b) {
            put((a.y * b.z - a.z * b.y) / THOUSAND,
                (a.z * b.x - a.x * b.z) / THOUSAND,
                (a.x * b.y - a.y * b.x) / THOUSAND);
        }

        void turnUp() {
            boolean down = z < 0 || z == 0 && (y < 0 || y == 0 && x < 0);
            if (down) {
                put(-x, -y, -z);
            }
        }
    }

    /** Sines, and all that is told by them: poles, arrows, nearness, how a vector lies. */
    private static final class Circle {
        /** So long that a direction turned by half, and a quarter more for its cosine, needs no turning back. */
        final int[] sines;

        Circle() {
            sines = new int[360 + 180 + 90];
            for (int d = 0; d < sines.length; d++) {
                int turned = d % 360;
                sines[d] = turned <= 180 ? bow(turned) : -bow(turned - 180);
            }
        }

        private static int bow(int d) {
            int bent = d * (180 - d);
            return (int) parted(4000L * bent, 40500 - bent);
        }

        int sine(int d) {
            return sines[Math.floorMod(d, 360)];
        }

        int cosine(int d) {
            return sines[Math.floorMod(d, 360) + 90];
        }

        void poleInto(int direction, int dip, Vector out) {
            int turned = plainDirection(direction, dip) + 180;
            int flat = sines[dip];
            out.put(flat * sines[turned + 90] / THOUSAND, flat * sines[turned] / THOUSAND, sines[dip + 90]);
        }

        void arrowInto(int trend, int plunge, Vector out) {
            int flat = sines[plunge + 90];
            out.put(flat * sines[trend + 90] / THOUSAND, flat * sines[trend] / THOUSAND, sines[plunge]);
        }

        boolean areNear(Vector a, Vector b, int angle) {
            long dot = a.dot(b);
            long cosine = sines[angle + 90];
            return dot * dot * MILLION >= cosine * cosine * (a.square() * b.square());
        }

        /** Cosines never rise from 0 to 90, so halving finds the least angle. */
        int angleOf(Vector a, Vector b) {
            long dot = a.dot(b);
            long have = dot * dot * MILLION;
            long squares = a.square() * b.square();
            int low = 0;
            int high = 90;
            for (int step = 0; step < 90 && low < high; step++) {
                int middle = (low + high) / 2;
                long cosine = sines[middle + 90];
                if (have >= cosine * cosine * squares) {
                    high = middle;
                } else {
                    low = middle + 1;
                }
            }
            return high;
        }

        /** Which of so many means has the least angle with a pole, the first of several. */
        int nearestOf(Vector pole, Vector[] means, int count) {
            int nearest = NONE;
            int least = 91;
            for (int i = 0; i < count && i < means.length; i++) {
                int angle = angleOf(pole, means[i]);
                if (angle < least) {
                    least = angle;
                    nearest = i;
                }
            }
            return nearest;
        }

        /** Half a turn on, what is reached has the other sign: the most is never below 0. */
        int trendOf(Vector v) {
            int best = 0;
            long most = NONE;
            for (int t = 0; t < 360; t++) {
                long reached = v.x * sines[t + 90] + v.y * sines[t];
                if (reached > most) {
                    most = reached;
                    best = t;
                }
            }
            return best;
        }

        private long levelOf(Vector v, int trend) {
            return (v.x * sines[trend + 90] + v.y * sines[trend]) / THOUSAND;
        }

        /** Of two numbers that are not below 0, so that what is reached isn't either. */
        private int tiltOf(long bySine, long byCosine) {
            int best = 0;
            long most = NONE;
            for (int d = 0; d <= 90; d++) {
                long reached = bySine * sines[d] + byCosine * sines[d + 90];
                if (reached > most) {
                    most = reached;
                    best = d;
                }
            }
            return best;
        }

        int plungeOf(Vector v, int trend) {
            return tiltOf(v.z, levelOf(v, trend));
        }

        /** A hundred times the direction and the dip, together, of the plain lie. */
        int lieOf(Vector v) {
            int trend = trendOf(v);
            int dip = tiltOf(levelOf(v, trend), v.z);
            return lieNumber(plainDirection((trend + 180) % 360, dip), dip);
        }
    }

    private static final class Crack {
        /** Its own for good, also when cracks before it are left out: where its angles are kept. */
        final int slot;
        final Vector pole;
        int line;
        int direction;
        int dip;
        int at;
        int plain;
        int lie;
        int weight;

        Crack(int ownSlot) {
            slot = ownSlot;
            pole = new Vector();
        }

        void lay(int newDirection, int newDip) {
            direction = newDirection;
            dip = newDip;
            plain = plainDirection(newDirection, newDip);
            lie = lieNumber(plain, newDip);
        }

        int tell(int what) {
            switch (what) {
                case 0:
                    return line;
                case 1:
                    return direction;
                case 2:
                    return dip;
                case 3:
                    return at;
                case 7:
                    return weight;
                default:
                    return (int) pole.number(what - 4);
            }
        }
    }

    /** Lines and cracks as they were told, their weights, the angles between them. */
    private static final class Survey {
        final Circle circle;
        final int[] trends;
        final int[] plunges;
        final int[] lengths;
        final Vector[] arrows;
        final Crack[] cracks;
        final int[] angles;
        int lines;
        int count;
        int cap;
        /** Goes up with every change, so that what was worked out knows when it is stale. */
        int edition;

        Survey(Circle sines) {
            circle = sines;
            trends = new int[MOST_LINES];
            plunges = new int[MOST_LINES];
            lengths = new int[MOST_LINES];
            arrows = new Vector[MOST_LINES];
            for (int i = 0; i < MOST_LINES; i++) {
                arrows[i] = new Vector();
            }
            cracks = new Crack[MOST_CRACKS];
            for (int i = 0; i < MOST_CRACKS; i++) {
                cracks[i] = new Crack(i);
            }
            angles = new int[MOST_CRACKS * MOST_CRACKS];
            cap = 1;
        }

        boolean hasLine(int which) {
            return which >= 0 && which < lines;
        }

        boolean hasCrack(int which) {
            return which >= 0 && which < count;
        }

        int addLine(int trend, int plunge, int length) {
            int which = lines;
            trends[which] = trend;
            plunges[which] = plunge;
            lengths[which] = length;
            circle.arrowInto(trend, plunge, arrows[which]);
            lines++;
            return which;
        }

        int addCrack(int onLine, int direction, int dip, int at) {
            Crack crack = cracks[count];
            crack.line = onLine;
            crack.at = at;
            crack.lay(direction, dip);
            circle.poleInto(direction, dip, crack.pole);
            crack.weight = weightBy(crack.pole, arrows[onLine]);
            for (int i = 0; i <= count; i++) {
                int angle = circle.angleOf(crack.pole, cracks[i].pole);
                angles[crack.slot * MOST_CRACKS + cracks[i].slot] = angle;
                angles[cracks[i].slot * MOST_CRACKS + crack.slot] = angle;
            }
            edition++;
            count++;
            return count - 1;
        }

        void removeCrack(int which) {
            Crack gone = cracks[which];
            for (int i = which; i < count - 1; i++) {
                cracks[i] = cracks[i + 1];
            }
            cracks[count - 1] = gone;
            count--;
            edition++;
        }

        void weighBy(int newCap) {
            cap = newCap;
            for (int i = 0; i < count; i++) {
                cracks[i].weight = weightBy(cracks[i].pole, arrows[cracks[i].line]);
            }
            edition++;
        }

        int weightBy(Vector pole, Vector arrow) {
            long dot = pole.dot(arrow);
            long most = cap * THOUSAND;
            if (dot == 0) {
                return (int) most;
            }
            long squared = parted(MILLION * (pole.square() * arrow.square()), dot * dot);
            return (int) (squared >= most * most ? most : root(squared));
        }

        int angleBetween(int crack, int other) {
            return angles[cracks[crack].slot * MOST_CRACKS + cracks[other].slot];
        }

        int countNear(int crack, int angle) {
            int found = 0;
            for (int i = 0; i < count; i++) {
                if (angleBetween(crack, i) <= angle) {
                    found++;
                }
            }
            return found;
        }

        int countAlike(int crack) {
            int found = 0;
            for (int i = 0; i < count; i++) {
                if (cracks[i].lie == cracks[crack].lie) {
                    found++;
                }
            }
            return found;
        }

        int countLies() {
            int found = 0;
            for (int i = 0; i < count; i++) {
                if (isFirstOfItsLie(i)) {
                    found++;
                }
            }
            return found;
        }

        private boolean isFirstOfItsLie(int crack) {
            for (int i = 0; i < crack; i++) {
                if (cracks[i].lie == cracks[crack].lie) {
                    return false;
                }
            }
            return true;
        }

        int tellLine(int which, int what) {
            switch (what) {
                case 0:
                    return trends[which];
                case 1:
                    return plunges[which];
                case 2:
                    return lengths[which];
                case 6:
                    return countOnLine(which);
                default:
                    return (int) arrows[which].number(what - 3);
            }
        }

        private int countOnLine(int which) {
            int found = 0;
            for (int i = 0; i < count; i++) {
                if (cracks[i].line == which) {
                    found++;
                }
            }
            return found;
        }

        long massOfAll() {
            long mass = 0;
            for (int i = 0; i < count; i++) {
                mass += cracks[i].weight;
            }
            return mass;
        }

        int thickAt(Vector pole, int angle) {
            int mass = 0;
            for (int i = 0; i < count; i++) {
                if (circle.areNear(cracks[i].pole, pole, angle)) {
                    mass += cracks[i].weight;
                }
            }
            return mass;
        }

        int inPetal(int petal, boolean weighed) {
            int found = 0;
            for (int i = 0; i < count; i++) {
                int strike = (cracks[i].plain + 90) % 180;
                if (cracks[i].dip != 0 && strike / 10 == petal) {
                    found += weighed ? cracks[i].weight : 1;
                }
            }
            return found;
        }

        int blindLines(Vector pole, int angle) {
            int bits = 0;
            for (int i = 0; i < lines; i++) {
                if (!circle.areNear(pole, arrows[i], 90 - angle)) {
                    bits |= 1 << i;
                }
            }
            return bits;
        }
    }

    /** The document's SUM and MASS, and what hangs on these alone. */
    private static final class Gather {
        final Vector sum;
        long mass;

        Gather() {
            sum = new Vector();
        }

        void clear() {
            sum.put(0, 0, 0);
            mass = 0;
        }

        void add(int weight, Vector pole, Vector guide) {
            long signed = pole.dot(guide) < 0 ? -weight : weight;
            sum.put(sum.x + signed * pole.x, sum.y + signed * pole.y, sum.z + signed * pole.z);
            mass += weight;
        }

        long reachOfSum() {
            return root(sum.square()) / THOUSAND;
        }

        int tightness() {
            long lacking = mass - reachOfSum();
            if (lacking <= 0) {
                return MILLION;
            }
            return (int) Math.min(MILLION, parted(100 * mass, lacking));
        }

        /** Leaves the vector as it is if the mean would be 0, 0, 0. */
        void meanInto(Vector out) {
            long x = parted(sum.x, mass);
            long y = parted(sum.y, mass);
            long z = parted(sum.z, mass);
            if (x != 0 || y != 0 || z != 0) {
                out.put(x, y, z);
            }
            out.turnUp();
        }
    }

    /** One set: how many it has, and, once it was measured, its mean and what hangs on it. */
    private static final class Group {
        final Gather gather;
        final Vector seedPole;
        final Vector mean;
        int size;
        int leastLie;
        boolean measured;
        int seed;
        int direction;
        int dip;
        int cone;
        int half;

        Group() {
            gather = new Gather();
            seedPole = new Vector();
            mean = new Vector();
        }

        void begin(int newSize, int newLeastLie) {
            size = newSize;
            leastLie = newLeastLie;
            measured = false;
        }

        long tell(int what) {
            switch (what) {
                case 0:
                    return size;
                case 1:
                    return gather.mass;
                case 2:
                    return direction;
                case 3:
                    return dip;
                case 7:
                    return gather.reachOfSum();
                case 8:
                    return gather.tightness();
                case 9:
                    return cone;
                case 10:
                    return half;
                case 11:
                    return seed;
                default:
                    return mean.number(what - 4);
            }
        }
    }

    /** Cracks that hang together, the sets among them, their means. */
    private static final class Grouping {
        final Survey survey;
        final Circle circle;
        final int[] places;
        final Group[] groups;
        /** Those of the groups, in one row for looking which is nearest. */
        final Vector[] means;
        final int[] heapOf;
        final int[] heapSizes;
        final int[] heapLies;
        final int[] queue;
        final int[] links;
        final int[] setsBy;
        final int[] massAt;
        int link;
        int least;
        int sets;
        int edition;
        int bridgeEdition;
        int bridgeCount;
        int firstBridge;

        Grouping(Survey told, Circle sines) {
            survey = told;
            circle = sines;
            places = new int[MOST_CRACKS];
            groups = new Group[MOST_SETS];
            means = new Vector[MOST_SETS];
            for (int i = 0; i < MOST_SETS; i++) {
                groups[i] = new Group();
                means[i] = groups[i].mean;
            }
            heapOf = new int[MOST_CRACKS];
            heapSizes = new int[MOST_CRACKS];
            heapLies = new int[MOST_CRACKS];
            queue = new int[MOST_CRACKS];
            links = new int[MOST_CRACKS];
            setsBy = new int[MOST_LINK + 1];
            massAt = new int[91];
            link = 10;
            least = 3;
            edition = NONE;
            bridgeEdition = NONE;
        }

        void groupBy(int newLink, int newLeast) {
            link = newLink;
            least = newLeast;
            survey.edition++;
        }

        // -- which cracks hang together

        private int spread(int start, int heap, int by, int leftOut) {
            heapOf[start] = heap;
            queue[0] = start;
            int filled = 1;
            for (int next = 0; next < filled && next < MOST_CRACKS; next++) {
                for (int i = 0; i < survey.count; i++) {
                    boolean open = heapOf[i] == NONE && i != leftOut && filled < MOST_CRACKS;
                    if (open && survey.angleBetween(queue[next], i) <= by) {
                        heapOf[i] = heap;
                        queue[filled] = i;
                        filled++;
                    }
                }
            }
            return filled;
        }

        private void scatter() {
            for (int i = 0; i < survey.count; i++) {
                heapOf[i] = NONE;
            }
        }

        private int heapUp(int by, int leftOut) {
            scatter();
            int heaps = 0;
            for (int i = 0; i < survey.count; i++) {
                if (heapOf[i] == NONE && i != leftOut) {
                    heapSizes[heaps] = spread(i, heaps, by, leftOut);
                    heaps++;
                }
            }
            return heaps;
        }

        int countSets(int by, int leftOut) {
            int heaps = heapUp(by, leftOut);
            int found = 0;
            for (int heap = 0; heap < heaps; heap++) {
                if (heapSizes[heap] >= least) {
                    found++;
                }
            }
            return found;
        }

        int countBy(int by) {
            if (setsBy[by] == NONE) {
                setsBy[by] = countSets(by, NONE);
            }
            return setsBy[by];
        }

        /** Grows from one crack by the least link each time, as far as the other one. */
        int leastLink(int crack, int other) {
            for (int i = 0; i < survey.count; i++) {
                links[i] = survey.angleBetween(crack, i);
                heapOf[i] = NONE;
            }
            links[crack] = 0;
            for (int step = 0; step < survey.count && heapOf[other] == NONE; step++) {
                int next = nearestOpen(other);
                heapOf[next] = 0;
                for (int i = 0; i < survey.count; i++) {
                    links[i] = Math.min(links[i], Math.max(links[next], survey.angleBetween(next, i)));
                }
            }
            return links[other];
        }

        private int nearestOpen(int open) {
            int nearest = open;
            for (int i = 0; i < survey.count; i++) {
                if (heapOf[i] == NONE && links[i] < links[nearest]) {
                    nearest = i;
                }
            }
            return nearest;
        }

        void findBridges() {
            if (bridgeEdition == survey.edition) {
                return;
            }
            bridgeEdition = survey.edition;
            bridgeCount = 0;
            firstBridge = NONE;
            for (int i = survey.count - 1; i >= 0; i--) {
                if (isBridge(i)) {
                    bridgeCount++;
                    firstBridge = i;
                }
            }
        }

        private boolean isBridge(int crack) {
            int set = places[crack];
            if (set < 0) {
                return false;
            }
            int start = findPlaced(set, 0);
            if (start == crack) {
                start = findPlaced(set, 1);
            }
            if (start < 0) {
                return false;
            }
            scatter();
            return spread(start, 0, link, crack) < groups[set].size - 1;
        }

        // -- sets

        /** Every call that asks for sets does this first; the rest of the class counts on it. */
        void refresh() {
            if (edition == survey.edition) {
                return;
            }
            edition = survey.edition;
            for (int by = 0; by <= MOST_LINK; by++) {
                setsBy[by] = NONE;
            }
            int heaps = heapUp(link, NONE);
            findHeapLies(heaps);
            sets = 0;
            for (int i = 0; i < survey.count; i++) {
                places[i] = NONE;
            }
            for (int heap = 0; heap < heaps; heap++) {
                if (heapSizes[heap] >= least && sets < MOST_SETS) {
                    numberHeap(heap, heaps);
                    sets++;
                }
            }
        }

        private void findHeapLies(int heaps) {
            for (int heap = 0; heap < heaps; heap++) {
                heapLies[heap] = ABOVE_ALL;
            }
            for (int i = 0; i < survey.count; i++) {
                int heap = heapOf[i];
                if (heap >= 0) {
                    heapLies[heap] = Math.min(heapLies[heap], survey.cracks[i].lie);
                }
            }
        }

        /** Heaps too small to be sets are smaller than all sets, so they never come before one. */
        private void numberHeap(int heap, int heaps) {
            int set = 0;
            for (int other = 0; other < heaps; other++) {
                boolean alike = heapSizes[other] == heapSizes[heap];
                if (heapSizes[other] > heapSizes[heap] || alike && heapLies[other] < heapLies[heap]) {
                    set++;
                }
            }
            for (int i = 0; i < survey.count; i++) {
                if (heapOf[i] == heap) {
                    places[i] = set;
                }
            }
            groups[set].begin(heapSizes[heap], heapLies[heap]);
        }

        boolean hasSet(int set) {
            refresh();
            return set >= 0 && set < sets;
        }

        /** The k-th crack of a set, or, with NONE, of those in no set; NONE if there is none. */
        int findPlaced(int set, int k) {
            int before = 0;
            for (int i = 0; i < survey.count; i++) {
                if (places[i] == set) {
                    if (before == k) {
                        return i;
                    }
                    before++;
                }
            }
            return NONE;
        }

        int countStrays() {
            int found = 0;
            for (int i = 0; i < survey.count; i++) {
                if (places[i] == NONE) {
                    found++;
                }
            }
            return found;
        }

        int fingerprint() {
            int print = 17;
            for (int set = 0; set < sets; set++) {
                print = print * 31 + groups[set].leastLie;
                print = print * 31 + groups[set].size;
            }
            return print * 31 + countStrays();
        }

        // -- what is measured of a set

        void measureAll() {
            refresh();
            for (int set = 0; set < sets; set++) {
                measured(set);
            }
        }

        Group measured(int set) {
            Group group = groups[set];
            if (!group.measured) {
                measure(set, group);
                group.measured = true;
            }
            return group;
        }

        private void measure(int set, Group group) {
            findSeed(set, group);
            group.gather.clear();
            for (int i = 0; i < survey.count; i++) {
                if (places[i] == set) {
                    group.gather.add(survey.cracks[i].weight, survey.cracks[i].pole, group.seedPole);
                }
            }
            group.mean.copy(group.seedPole);
            group.gather.meanInto(group.mean);
            int lie = circle.lieOf(group.mean);
            group.direction = lie / 100;
            group.dip = lie % 100;
            openCone(set, group);
        }

        private void findSeed(int set, Group group) {
            int most = 0;
            for (int i = 0; i < survey.count; i++) {
                if (places[i] == set) {
                    Crack crack = survey.cracks[i];
                    int around = countAround(set, i);
                    if (around > most || around == most && crack.lie < group.seed) {
                        most = around;
                        group.seed = crack.lie;
                        group.seedPole.copy(crack.pole);
                    }
                }
            }
        }

        private int countAround(int set, int crack) {
            int found = 0;
            for (int i = 0; i < survey.count; i++) {
                if (places[i] == set && survey.angleBetween(crack, i) <= link) {
                    found++;
                }
            }
            return found;
        }

        private void openCone(int set, Group group) {
            for (int angle = 0; angle <= 90; angle++) {
                massAt[angle] = 0;
            }
            group.cone = 0;
            for (int i = 0; i < survey.count; i++) {
                if (places[i] == set) {
                    int angle = circle.angleOf(survey.cracks[i].pole, group.mean);
                    massAt[angle] += survey.cracks[i].weight;
                    group.cone = Math.max(group.cone, angle);
                }
            }
            group.half = 0;
            long inside = massAt[0];
            for (int angle = 1; angle <= 90 && 2 * inside < group.gather.mass; angle++) {
                inside += massAt[angle];
                group.half = angle;
            }
        }

        int angleOfMeans(int set, int other) {
            return circle.angleOf(means[set], means[other]);
        }

        boolean conesMeet(int set, int other) {
            return angleOfMeans(set, other) <= groups[set].cone + groups[other].cone;
        }

        int countInCone(int set, int other) {
            Group around = groups[other];
            int found = 0;
            for (int i = 0; i < survey.count; i++) {
                if (places[i] == set && circle.areNear(survey.cracks[i].pole, around.mean, around.cone)) {
                    found++;
                }
            }
            return found;
        }

        // -- spacings on a line

        private boolean isOn(int crack, int set, int line) {
            return places[crack] == set && survey.cracks[crack].line == line;
        }

        int countOn(int set, int line) {
            int found = 0;
            for (int i = 0; i < survey.count; i++) {
                if (isOn(i, set, line)) {
                    found++;
                }
            }
            return found;
        }

        int apparentGap(int set, int line) {
            int gaps = countOn(set, line) - 1;
            int first = LONGEST;
            int last = 0;
            for (int i = 0; i < survey.count; i++) {
                if (isOn(i, set, line)) {
                    first = Math.min(first, survey.cracks[i].at);
                    last = Math.max(last, survey.cracks[i].at);
                }
            }
            return (int) parted(last - first, gaps);
        }

        int trueGap(int set, int line) {
            long across = slant(measured(set).mean, survey.arrows[line]);
            return (int) (apparentGap(set, line) * across / THOUSAND);
        }
    }

    /** Sets settled around means, kept for the latest reach. */
    private static final class Settling {
        final Survey survey;
        final Grouping grouping;
        final Circle circle;
        final int[] places;
        final Vector[] means;
        final Gather gather;
        int rounds;
        int reach;
        int edition;

        Settling(Survey told, Grouping sets, Circle sines) {
            survey = told;
            grouping = sets;
            circle = sines;
            places = new int[MOST_CRACKS];
            means = new Vector[MOST_SETS];
            for (int i = 0; i < MOST_SETS; i++) {
                means[i] = new Vector();
            }
            gather = new Gather();
            edition = NONE;
        }

        void settle(int newReach) {
            if (edition == survey.edition && reach == newReach) {
                return;
            }
            edition = survey.edition;
            reach = newReach;
            begin();
            boolean changed = true;
            for (rounds = 0; changed && rounds < MOST_ROUNDS; rounds++) {
                changed = moveCracks();
                renewMeans();
            }
        }

        private void begin() {
            for (int i = 0; i < survey.count; i++) {
                places[i] = grouping.places[i];
            }
            for (int set = 0; set < grouping.sets; set++) {
                means[set].copy(grouping.means[set]);
            }
        }

        private boolean moveCracks() {
            boolean changed = false;
            for (int i = 0; i < survey.count; i++) {
                int place = placeFor(survey.cracks[i].pole);
                changed = changed || place != places[i];
                places[i] = place;
            }
            return changed;
        }

        private int placeFor(Vector pole) {
            int nearest = circle.nearestOf(pole, means, grouping.sets);
            if (nearest < 0 || circle.angleOf(pole, means[nearest]) > reach) {
                return NONE;
            }
            return nearest;
        }

        private void renewMeans() {
            for (int set = 0; set < grouping.sets; set++) {
                gather.clear();
                for (int i = 0; i < survey.count; i++) {
                    if (places[i] == set) {
                        gather.add(survey.cracks[i].weight, survey.cracks[i].pole, means[set]);
                    }
                }
                gather.meanInto(means[set]);
            }
        }

        int countMoved() {
            int found = 0;
            for (int i = 0; i < survey.count; i++) {
                if (places[i] != grouping.places[i]) {
                    found++;
                }
            }
            return found;
        }

        int countNowhere() {
            int found = 0;
            for (int i = 0; i < survey.count; i++) {
                if (places[i] == NONE) {
                    found++;
                }
            }
            return found;
        }
    }

    /** What is looked for over the whole half sphere, kept till something changes. */
    private static final class Scan {
        final Survey survey;
        final Circle circle;
        final Vector trial;
        /** xx, yy, zz, xy, xz, yz. */
        final long[] weft;
        final int[] girdle;
        final int[] cluster;
        final int[] bestLine;
        final int[] thickest;
        int weftEdition;
        int axesEdition;
        int lineEdition;
        int thickEdition;
        int thickAngle;

        Scan(Survey told, Circle sines) {
            survey = told;
            circle = sines;
            trial = new Vector();
            weft = new long[6];
            girdle = new int[2];
            cluster = new int[2];
            bestLine = new int[3];
            thickest = new int[3];
            weftEdition = NONE;
            axesEdition = NONE;
            lineEdition = NONE;
            thickEdition = NONE;
        }

        void weave() {
            if (weftEdition == survey.edition) {
                return;
            }
            weftEdition = survey.edition;
            for (int k = 0; k < weft.length; k++) {
                weft[k] = 0;
            }
            for (int i = 0; i < survey.count; i++) {
                addToWeft(survey.cracks[i].pole, survey.cracks[i].weight);
            }
            long mass = survey.massOfAll();
            for (int k = 0; k < weft.length; k++) {
                weft[k] = parted(weft[k], mass);
            }
        }

        private void addToWeft(Vector pole, long weight) {
            weft[0] += pole.x * pole.x * weight;
            weft[1] += pole.y * pole.y * weight;
            weft[2] += pole.z * pole.z * weight;
            weft[3] += pole.x * pole.y * weight;
            weft[4] += pole.x * pole.z * weight;
            weft[5] += pole.y * pole.z * weight;
        }

        private long shareOf(Vector v) {
            long even = weft[0] * v.x * v.x + weft[1] * v.y * v.y + weft[2] * v.z * v.z;
            long mixed = weft[3] * v.x * v.y + weft[4] * v.x * v.z + weft[5] * v.y * v.z;
            return even + 2 * mixed;
        }

        /** Quotients are compared crosswise, so that nothing is cut; no product is above 1.1e18. */
        void findAxes() {
            if (axesEdition == survey.edition) {
                return;
            }
            axesEdition = survey.edition;
            weave();
            circle.poleInto(0, 0, trial);
            long leastShare = shareOf(trial);
            long leastSquare = trial.square();
            long mostShare = leastShare;
            long mostSquare = leastSquare;
            putPair(girdle, 0, 0);
            putPair(cluster, 0, 0);
            for (int dip = 1; dip <= 90; dip++) {
                int directions = dip == 90 ? 180 : 360;
                for (int direction = 0; direction < directions; direction++) {
                    circle.poleInto(direction, dip, trial);
                    long share = shareOf(trial);
                    long square = trial.square();
                    if (share * leastSquare < leastShare * square) {
                        leastShare = share;
                        leastSquare = square;
                        putPair(girdle, direction, dip);
                    }
                    if (share * mostSquare > mostShare * square) {
                        mostShare = share;
                        mostSquare = square;
                        putPair(cluster, direction, dip);
                    }
                }
            }
        }

        private static void putPair(int[] row, int direction, int dip) {
            row[0] = direction;
            row[1] = dip;
        }

        void findBestLine() {
            if (lineEdition == survey.edition) {
                return;
            }
            lineEdition = survey.edition;
            bestLine[2] = ABOVE_ALL;
            for (int plunge = 0; plunge <= 90; plunge += 10) {
                for (int trend = 0; trend < 360; trend += 10) {
                    circle.arrowInto(trend, plunge, trial);
                    int weights = weightsBy(trial);
                    if (weights < bestLine[2]) {
                        putPair(bestLine, trend, plunge);
                        bestLine[2] = weights;
                    }
                }
            }
        }

        private int weightsBy(Vector arrow) {
            int weights = 0;
            for (int i = 0; i < survey.count; i++) {
                weights += survey.weightBy(survey.cracks[i].pole, arrow);
            }
            return weights;
        }

        void findThickest(int angle) {
            if (thickEdition == survey.edition && thickAngle == angle) {
                return;
            }
            thickEdition = survey.edition;
            thickAngle = angle;
            thickest[2] = NONE;
            for (int dip = 0; dip <= 90; dip += 10) {
                for (int direction = 0; direction < 360; direction += 10) {
                    circle.poleInto(direction, dip, trial);
                    int mass = survey.thickAt(trial, angle);
                    if (mass > thickest[2]) {
                        putPair(thickest, direction, dip);
                        thickest[2] = mass;
                    }
                }
            }
        }
    }

    /** The slope, the wedges of all couples of sets, and what comes out of the slope. */
    private static final class Hazards {
        final Grouping grouping;
        final Circle circle;
        final Vector edge;
        final int[] trends;
        final int[] plunges;
        int facing;
        int steepness;
        int friction;
        int side;
        int edition;

        Hazards(Grouping sets, Circle sines) {
            grouping = sets;
            circle = sines;
            edge = new Vector();
            trends = new int[MOST_SETS * MOST_SETS];
            plunges = new int[MOST_SETS * MOST_SETS];
            facing = 0;
            steepness = 60;
            friction = 30;
            side = 20;
            edition = NONE;
        }

        void cut(int newFacing, int newSteepness, int newFriction, int newSide) {
            facing = newFacing;
            steepness = newSteepness;
            friction = newFriction;
            side = newSide;
        }

        private static int off(int direction, int other) {
            int apart = Math.floorMod(direction - other, 360);
            return Math.min(apart, 360 - apart);
        }

        int slidingSets(int direction, int dip) {
            int bits = 0;
            for (int set = 0; set < grouping.sets; set++) {
                Group group = grouping.groups[set];
                boolean daylights = group.dip > friction && group.dip < dip;
                if (daylights && off(group.direction, direction) <= side) {
                    bits |= 1 << set;
                }
            }
            return bits;
        }

        int topplingSets(int direction, int dip) {
            int bits = 0;
            for (int set = 0; set < grouping.sets; set++) {
                Group group = grouping.groups[set];
                boolean leans = dip - friction >= 90 - group.dip;
                if (leans && off(group.direction, direction + 180) <= side) {
                    bits |= 1 << set;
                }
            }
            return bits;
        }

        /** False, and the vector of no use, if the two have no wedge. */
        boolean wedgeInto(int lower, int higher, Vector out) {
            out.putCross(grouping.means[lower], grouping.means[higher]);
            out.turnUp();
            return !out.isZero();
        }

        void findWedges() {
            int sets = grouping.sets;
            if (edition == grouping.edition) {
                return;
            }
            edition = grouping.edition;
            for (int lower = 0; lower < sets; lower++) {
                for (int higher = lower + 1; higher < sets; higher++) {
                    int couple = lower * MOST_SETS + higher;
                    trends[couple] = NONE;
                    if (wedgeInto(lower, higher, edge)) {
                        trends[couple] = circle.trendOf(edge);
                        plunges[couple] = circle.plungeOf(edge, trends[couple]);
                    }
                }
            }
        }

        private boolean wedgeSlides(int couple, int direction, int dip) {
            int trend = trends[couple];
            int plunge = plunges[couple];
            if (trend < 0 || plunge <= friction) {
                return false;
            }
            int aside = off(trend, direction);
            if (aside >= 90) {
                return false;
            }
            long held = (long) circle.sine(plunge) * circle.cosine(dip) * THOUSAND;
            return held < (long) circle.sine(dip) * circle.cosine(aside) * circle.cosine(plunge);
        }

        int countWedges(int direction, int dip) {
            int sets = grouping.sets;
            int found = 0;
            for (int lower = 0; lower < sets; lower++) {
                for (int higher = lower + 1; higher < sets; higher++) {
                    if (wedgeSlides(lower * MOST_SETS + higher, direction, dip)) {
                        found++;
                    }
                }
            }
            return found;
        }

        int firstCouple() {
            int sets = grouping.sets;
            for (int lower = 0; lower < sets; lower++) {
                for (int higher = lower + 1; higher < sets; higher++) {
                    if (wedgeSlides(lower * MOST_SETS + higher, facing, steepness)) {
                        return 100 * lower + higher;
                    }
                }
            }
            return NONE;
        }

        int countAll(int direction, int dip) {
            int slides = Integer.bitCount(slidingSets(direction, dip));
            int topples = Integer.bitCount(topplingSets(direction, dip));
            return slides + topples + countWedges(direction, dip);
        }

        int holding(int dip) {
            long holds = 100L * circle.sine(friction) * circle.cosine(dip);
            return (int) parted(holds, (long) circle.cosine(friction) * circle.sine(dip));
        }
    }

    /** Two limbs turned round a level axis. */
    private static final class Folding {
        final Survey survey;
        final Grouping grouping;
        final Circle circle;
        final Vector axle;
        final Vector aside;
        final Vector turned;
        final Vector guide;
        final Gather gather;

        Folding(Survey told, Grouping sets, Circle sines) {
            survey = told;
            grouping = sets;
            circle = sines;
            axle = new Vector();
            aside = new Vector();
            turned = new Vector();
            guide = new Vector();
            gather = new Gather();
        }

        private void turnInto(Vector v, int g, Vector out) {
            long cosine = circle.cosine(g);
            long sine = circle.sine(g);
            long rest = THOUSAND - cosine;
            long along = axle.dot(v) / THOUSAND;
            aside.putCross(axle, v);
            out.put((v.x * cosine + aside.x * sine + axle.x * along / THOUSAND * rest) / THOUSAND,
                    (v.y * cosine + aside.y * sine + axle.y * along / THOUSAND * rest) / THOUSAND,
                    (v.z * cosine + aside.z * sine + axle.z * along / THOUSAND * rest) / THOUSAND);
        }

        int tightBy(int first, int second, int trend, int g) {
            axle.put(circle.cosine(trend), circle.sine(trend), 0);
            turnInto(grouping.means[first], g, guide);
            gather.clear();
            for (int i = 0; i < survey.count; i++) {
                int place = grouping.places[i];
                if (place == first || place == second) {
                    turnInto(survey.cracks[i].pole, place == first ? g : -g, turned);
                    gather.add(survey.cracks[i].weight, turned, guide);
                }
            }
            return gather.tightness();
        }
    }
}
