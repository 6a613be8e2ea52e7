import java.util.ArrayList;
import java.util.List;
import java.util.TreeSet;

/**
 * The document once more, word by word, with nothing kept and nothing clever, for comparing.
 * Products are multiplied exactly, so that it fails where a number of the document would not fit.
 */
public final class Oracle {
    private final List<int[]> lines = new ArrayList<>();
    private final List<int[]> cracks = new ArrayList<>();
    private int link = 10;
    private int least = 3;
    private int cap = 1;
    private int[] slope = {0, 60, 30, 20};
    private int status = 0;

    // ==== 1

    static long sine(int d) {
        while (d < 0) {
            d += 360;
        }
        while (d >= 360) {
            d -= 360;
        }
        if (d > 180) {
            return -sine(d - 180);
        }
        return 4000L * d * (180 - d) / (40500 - d * (180 - d));
    }

    static long cosine(int d) {
        return sine(d + 90);
    }

    static long root(long n) {
        long r = (long) Math.sqrt((double) n);
        while (r > 0 && Math.multiplyExact(r, r) > n) {
            r--;
        }
        while (Math.multiplyExact(r + 1, r + 1) <= n) {
            r++;
        }
        return r;
    }

    static boolean alike(int[] a, int[] b) {
        if (a[0] == b[0] && a[1] == b[1] || a[1] == 0 && b[1] == 0) {
            return true;
        }
        return a[1] == 90 && b[1] == 90 && Math.abs(a[0] - b[0]) == 180;
    }

    static int[] plain(int[] lie) {
        for (int direction = 0; direction < 360; direction++) {
            int[] other = {direction, lie[1]};
            if (alike(lie, other)) {
                return other;
            }
        }
        throw new IllegalStateException();
    }

    static long[] pole(int[] lie) {
        int[] p = plain(lie);
        long x = sine(p[1]) * cosine(p[0] + 180) / 1000;
        long y = sine(p[1]) * sine(p[0] + 180) / 1000;
        return new long[] {x, y, cosine(p[1])};
    }

    static long[] arrow(int trend, int plunge) {
        long x = cosine(plunge) * cosine(trend) / 1000;
        long y = cosine(plunge) * sine(trend) / 1000;
        return new long[] {x, y, sine(plunge)};
    }

    static long dot(long[] a, long[] b) {
        return a[0] * b[0] + a[1] * b[1] + a[2] * b[2];
    }

    static long times(long... factors) {
        long product = 1;
        for (long factor : factors) {
            product = Math.multiplyExact(product, factor);
        }
        return product;
    }

    static boolean isNear(long[] a, long[] b, int angle) {
        long left = times(dot(a, b), dot(a, b), 1000000);
        return left >= times(cosine(angle), cosine(angle), dot(a, a), dot(b, b));
    }

    static int leastAngle(long[] a, long[] b) {
        int angle = 0;
        while (!isNear(a, b, angle)) {
            angle++;
        }
        return angle;
    }

    private long weightBy(long[] pole, long[] arrow) {
        long d = dot(pole, arrow);
        if (d == 0) {
            return cap * 1000L;
        }
        long w = root(times(1000000, dot(pole, pole), dot(arrow, arrow)) / times(d, d));
        return cap * 1000L < w ? cap * 1000L : w;
    }

    private int[] lieOfCrack(int c) {
        return new int[] {cracks.get(c)[1], cracks.get(c)[2]};
    }

    private long[] poleOfCrack(int c) {
        return pole(lieOfCrack(c));
    }

    private long weight(int c) {
        int[] l = lines.get(cracks.get(c)[0]);
        return weightBy(poleOfCrack(c), arrow(l[0], l[1]));
    }

    // ==== 2

    private static int number(int[] lie) {
        return 100 * lie[0] + lie[1];
    }

    private int leastLie(List<Integer> members) {
        int found = Integer.MAX_VALUE;
        for (int m : members) {
            found = Math.min(found, number(plain(lieOfCrack(m))));
        }
        return found;
    }

    /** By a link, one crack left out (or -1): hangs[i][j]. */
    private boolean[][] closure(int by, int leftOut) {
        int n = cracks.size();
        boolean[][] hang = new boolean[n][n];
        for (int i = 0; i < n; i++) {
            for (int j = 0; j < n; j++) {
                hang[i][j] = i != leftOut && j != leftOut && isNear(poleOfCrack(i), poleOfCrack(j), by);
            }
        }
        for (int k = 0; k < n; k++) {
            for (int i = 0; i < n; i++) {
                for (int j = 0; j < n; j++) {
                    hang[i][j] |= hang[i][k] && hang[k][j];
                }
            }
        }
        return hang;
    }

    private List<List<Integer>> setsBy(int by, int leftOut) {
        boolean[][] hang = closure(by, leftOut);
        List<List<Integer>> sets = new ArrayList<>();
        boolean[] seen = new boolean[cracks.size()];
        for (int i = 0; i < cracks.size(); i++) {
            List<Integer> heap = new ArrayList<>();
            for (int j = 0; j < cracks.size(); j++) {
                if (hang[i][j] && !seen[j]) {
                    seen[j] = true;
                    heap.add(j);
                }
            }
            if (heap.size() >= least) {
                sets.add(heap);
            }
        }
        sets.sort((a, b) -> {
            if (a.size() != b.size()) {
                return b.size() - a.size();
            }
            return leastLie(a) - leastLie(b);
        });
        return sets;
    }

    private List<List<Integer>> sets() {
        return setsBy(link, -1);
    }

    private int setOf(List<List<Integer>> sets, int crack) {
        for (int s = 0; s < sets.size(); s++) {
            if (sets.get(s).contains(crack)) {
                return s;
            }
        }
        return -1;
    }

    private int[] seed(List<Integer> members) {
        int most = -1;
        int best = 0;
        for (int a : members) {
            int around = 0;
            for (int b : members) {
                if (isNear(poleOfCrack(a), poleOfCrack(b), link)) {
                    around++;
                }
            }
            int lie = number(plain(lieOfCrack(a)));
            if (around > most || around == most && lie < best) {
                most = around;
                best = lie;
            }
        }
        return new int[] {best / 100, best % 100};
    }

    private static long[] negative(long[] v) {
        return new long[] {-v[0], -v[1], -v[2]};
    }

    private long[] sum(List<Integer> members, long[] guide) {
        long[] sum = new long[3];
        for (int m : members) {
            long[] p = poleOfCrack(m);
            if (dot(p, guide) < 0) {
                p = negative(p);
            }
            for (int k = 0; k < 3; k++) {
                sum[k] += weight(m) * p[k];
            }
        }
        return sum;
    }

    private long mass(List<Integer> members) {
        long mass = 0;
        for (int m : members) {
            mass += weight(m);
        }
        return mass;
    }

    static boolean zero(long[] v) {
        return v[0] == 0 && v[1] == 0 && v[2] == 0;
    }

    static long[] up(long[] v) {
        if (v[2] < 0) {
            return negative(v);
        }
        if (v[2] == 0 && v[1] < 0) {
            return negative(v);
        }
        if (v[2] == 0 && v[1] == 0 && v[0] < 0) {
            return negative(v);
        }
        return v;
    }

    private long[] meanBy(List<Integer> members, long[] guide, long[] instead) {
        if (members.isEmpty()) {
            return instead;
        }
        long[] sum = sum(members, guide);
        long mass = mass(members);
        long[] mean = {sum[0] / mass, sum[1] / mass, sum[2] / mass};
        return up(zero(mean) ? instead : mean);
    }

    private long[] mean(List<Integer> members) {
        long[] s = pole(seed(members));
        return meanBy(members, s, s);
    }

    static int trend(long[] v) {
        int best = 0;
        for (int t = 1; t < 360; t++) {
            if (v[0] * cosine(t) + v[1] * sine(t) > v[0] * cosine(best) + v[1] * sine(best)) {
                best = t;
            }
        }
        return best;
    }

    static long level(long[] v) {
        int t = trend(v);
        return (v[0] * cosine(t) + v[1] * sine(t)) / 1000;
    }

    static int[] lie(long[] v) {
        long h = level(v);
        int best = 0;
        for (int d = 1; d <= 90; d++) {
            if (h * sine(d) + v[2] * cosine(d) > h * sine(best) + v[2] * cosine(best)) {
                best = d;
            }
        }
        return plain(new int[] {(trend(v) + 180) % 360, best});
    }

    static int plunge(long[] v) {
        long h = level(v);
        int best = 0;
        for (int d = 1; d <= 90; d++) {
            if (h * cosine(d) + v[2] * sine(d) > h * cosine(best) + v[2] * sine(best)) {
                best = d;
            }
        }
        return best;
    }

    static long longOf(long[] sum) {
        long square = times(sum[0], sum[0]) + times(sum[1], sum[1]) + times(sum[2], sum[2]);
        return root(square) / 1000;
    }

    static long tight(long mass, long length) {
        if (mass <= length) {
            return 1000000;
        }
        return Math.min(1000000, 100 * mass / (mass - length));
    }

    private int cone(List<Integer> members) {
        int cone = 0;
        for (int m : members) {
            cone = Math.max(cone, leastAngle(poleOfCrack(m), mean(members)));
        }
        return cone;
    }

    private int half(List<Integer> members) {
        for (int angle = 0; angle <= 90; angle++) {
            long inside = 0;
            for (int m : members) {
                if (isNear(poleOfCrack(m), mean(members), angle)) {
                    inside += weight(m);
                }
            }
            if (2 * inside >= mass(members)) {
                return angle;
            }
        }
        throw new IllegalStateException();
    }

    // ==== 3

    private static int nearestMean(long[] pole, List<long[]> means) {
        int best = -1;
        for (int s = 0; s < means.size(); s++) {
            if (best < 0 || leastAngle(pole, means.get(s)) < leastAngle(pole, means.get(best))) {
                best = s;
            }
        }
        return best;
    }

    private final class Rest {
        int rounds = 0;
        int[] place = new int[cracks.size()];
        List<long[]> means = new ArrayList<>();

        Rest(int reach) {
            List<List<Integer>> sets = sets();
            for (List<Integer> s : sets) {
                means.add(mean(s));
            }
            for (int i = 0; i < place.length; i++) {
                place[i] = setOf(sets, i);
            }
            boolean changed;
            do {
                changed = round(reach);
                rounds++;
            } while (changed && rounds < 12);
        }

        private boolean round(int reach) {
            int[] now = new int[place.length];
            for (int i = 0; i < now.length; i++) {
                now[i] = nearestMean(poleOfCrack(i), means);
                if (now[i] >= 0 && leastAngle(poleOfCrack(i), means.get(now[i])) > reach) {
                    now[i] = -1;
                }
            }
            List<long[]> later = new ArrayList<>();
            for (int s = 0; s < means.size(); s++) {
                List<Integer> members = new ArrayList<>();
                for (int i = 0; i < now.length; i++) {
                    if (now[i] == s) {
                        members.add(i);
                    }
                }
                later.add(meanBy(members, means.get(s), means.get(s)));
            }
            boolean changed = !java.util.Arrays.equals(now, place);
            place = now;
            means = later;
            return changed;
        }
    }

    private long thickness(int[] lie, int angle) {
        long found = 0;
        for (int i = 0; i < cracks.size(); i++) {
            if (isNear(poleOfCrack(i), pole(lie), angle)) {
                found += weight(i);
            }
        }
        return found;
    }

    static long c(long[] a, long[] b) {
        return root(times(1000000, dot(a, b), dot(a, b)) / times(dot(a, a), dot(b, b)));
    }

    private List<Integer> ats(List<Integer> members, int line) {
        List<Integer> ats = new ArrayList<>();
        for (int m : members) {
            if (cracks.get(m)[0] == line) {
                ats.add(cracks.get(m)[3]);
            }
        }
        ats.sort(null);
        return ats;
    }

    private static int apparent(List<Integer> ats) {
        return (ats.get(ats.size() - 1) - ats.get(0)) / (ats.size() - 1);
    }

    private long trueSpacing(List<Integer> members, int line) {
        int[] l = lines.get(line);
        return apparent(ats(members, line)) * c(mean(members), arrow(l[0], l[1])) / 1000;
    }

    static long[] cross(long[] a, long[] b) {
        return new long[] {
            (a[1] * b[2] - a[2] * b[1]) / 1000,
            (a[2] * b[0] - a[0] * b[2]) / 1000,
            (a[0] * b[1] - a[1] * b[0]) / 1000};
    }

    // ==== 4

    private long[] wedgeOf(List<List<Integer>> sets, int a, int b) {
        long[] w = cross(mean(sets.get(Math.min(a, b))), mean(sets.get(Math.max(a, b))));
        return zero(w) ? null : up(w);
    }

    static int off(int a, int b) {
        int d = Math.abs(a - b) % 360;
        return d > 180 ? 360 - d : d;
    }

    static boolean setSlides(int[] lie, int[] s) {
        return off(lie[0], s[0]) <= s[3] && lie[1] > s[2] && lie[1] < s[1];
    }

    static boolean setTopples(int[] lie, int[] s) {
        return off(lie[0], s[0] + 180) <= s[3] && s[1] - s[2] >= 90 - lie[1];
    }

    static boolean wedgeSlides(long[] w, int[] s) {
        int off = off(trend(w), s[0]);
        int p = plunge(w);
        return off < 90 && p > s[2]
            && sine(p) * cosine(s[1]) * 1000 < sine(s[1]) * cosine(off) * cosine(p);
    }

    /** Sliding sets as bits, toppling ones as bits, wedges, the first couple (-1: none). */
    private int[] risks(List<int[]> lies, List<long[]> wedges, List<Integer> couples, int[] s) {
        int[] found = {0, 0, 0, -1};
        for (int i = 0; i < lies.size(); i++) {
            found[0] |= setSlides(lies.get(i), s) ? 1 << i : 0;
            found[1] |= setTopples(lies.get(i), s) ? 1 << i : 0;
        }
        for (int i = 0; i < wedges.size(); i++) {
            if (wedgeSlides(wedges.get(i), s)) {
                found[2]++;
                found[3] = found[3] < 0 ? couples.get(i) : found[3];
            }
        }
        return found;
    }

    private final class Scene {
        final List<int[]> lies = new ArrayList<>();
        final List<long[]> wedges = new ArrayList<>();
        final List<Integer> couples = new ArrayList<>();

        Scene() {
            List<List<Integer>> sets = sets();
            for (List<Integer> s : sets) {
                lies.add(lie(mean(s)));
            }
            for (int a = 0; a < sets.size(); a++) {
                for (int b = a + 1; b < sets.size(); b++) {
                    long[] w = wedgeOf(sets, a, b);
                    if (w != null) {
                        wedges.add(w);
                        couples.add(100 * a + b);
                    }
                }
            }
        }

        int[] by(int[] s) {
            return risks(lies, wedges, couples, s);
        }

        int all(int direction, int dip) {
            int[] f = by(new int[] {direction, dip, slope[2], slope[3]});
            return Integer.bitCount(f[0]) + Integer.bitCount(f[1]) + f[2];
        }
    }

    static long[] turned(long[] v, int g, int t) {
        long[] u = {cosine(t), sine(t), 0};
        long[] w = cross(u, v);
        long q = dot(u, v) / 1000;
        long[] out = new long[3];
        for (int k = 0; k < 3; k++) {
            long r = u[k] * q / 1000;
            out[k] = (v[k] * cosine(g) + w[k] * sine(g) + r * (1000 - cosine(g))) / 1000;
        }
        return out;
    }

    private long foldBy(List<Integer> first, List<Integer> second, int t, int g) {
        long[] guide = turned(mean(first), g, t);
        long[] sum = new long[3];
        for (int limb = 0; limb < 2; limb++) {
            for (int m : limb == 0 ? first : second) {
                long[] p = turned(poleOfCrack(m), limb == 0 ? g : -g, t);
                long sign = dot(p, guide) < 0 ? -1 : 1;
                for (int k = 0; k < 3; k++) {
                    sum[k] += sign * weight(m) * p[k];
                }
            }
        }
        return tight(mass(first) + mass(second), longOf(sum));
    }

    private long[] fabricNow() {
        int[][] pairs = {{0, 0}, {1, 1}, {2, 2}, {0, 1}, {0, 2}, {1, 2}};
        long[] f = new long[6];
        long mass = 0;
        for (int i = 0; i < cracks.size(); i++) {
            mass += weight(i);
            for (int k = 0; k < 6; k++) {
                f[k] += poleOfCrack(i)[pairs[k][0]] * poleOfCrack(i)[pairs[k][1]] * weight(i);
            }
        }
        for (int k = 0; k < 6; k++) {
            f[k] /= mass;
        }
        return f;
    }

    // ==== 5

    private int is(long value) {
        status = 0;
        return Math.toIntExact(value);
    }

    private int no(int why) {
        status = why;
        return -1;
    }

    private static boolean in(int n, int low, int high) {
        return low <= n && n <= high;
    }

    private boolean noCrack(int c) {
        return !in(c, 0, cracks.size() - 1);
    }

    private boolean noLine(int l) {
        return !in(l, 0, lines.size() - 1);
    }

    private boolean noSet(int s) {
        return !in(s, 0, sets().size() - 1);
    }

    private boolean notTwo(int a, int b) {
        return noSet(a) || noSet(b) || a == b;
    }

    public int status() {
        return status;
    }

    public int line(int trend, int plunge, int length) {
        if (!in(trend, 0, 359) || !in(plunge, 0, 90) || !in(length, 1, 100000)) {
            return no(1);
        }
        if (lines.size() == 6) {
            return no(3);
        }
        lines.add(new int[] {trend, plunge, length});
        return is(lines.size() - 1);
    }

    public int crack(int line, int direction, int dip, int at) {
        if (!in(direction, 0, 359) || !in(dip, 0, 90) || at < 0) {
            return no(1);
        }
        if (noLine(line)) {
            return no(2);
        }
        if (at > lines.get(line)[2]) {
            return no(1);
        }
        if (cracks.size() == 60) {
            return no(3);
        }
        cracks.add(new int[] {line, direction, dip, at});
        return is(cracks.size() - 1);
    }

    public int drop(int crack) {
        if (noCrack(crack)) {
            return no(2);
        }
        cracks.remove(crack);
        return is(cracks.size());
    }

    public int link(int newLink, int newLeast) {
        if (!in(newLink, 1, 45) || !in(newLeast, 2, 20)) {
            return no(1);
        }
        int was = 100 * link + least;
        link = newLink;
        least = newLeast;
        return is(was);
    }

    public int cap(int newCap) {
        if (!in(newCap, 1, 20)) {
            return no(1);
        }
        int was = cap;
        cap = newCap;
        return is(was);
    }

    public int slope(int direction, int dip, int friction, int side) {
        if (!in(direction, 0, 359) || !in(dip, 1, 90) || !in(friction, 0, 89) || !in(side, 0, 45)) {
            return no(1);
        }
        slope = new int[] {direction, dip, friction, side};
        return is(Integer.bitCount(new Scene().by(slope)[0]));
    }

    public int many(int what) {
        if (!in(what, 0, 4)) {
            return no(1);
        }
        if (what < 2) {
            return is(what == 0 ? lines.size() : cracks.size());
        }
        if (what == 2) {
            TreeSet<Integer> lies = new TreeSet<>();
            for (int i = 0; i < cracks.size(); i++) {
                lies.add(number(plain(lieOfCrack(i))));
            }
            return is(lies.size());
        }
        int inSets = 0;
        for (List<Integer> s : sets()) {
            inSets += s.size();
        }
        return is(what == 3 ? sets().size() : cracks.size() - inSets);
    }

    public int of(int crack, int what) {
        if (!in(what, 0, 9)) {
            return no(1);
        }
        if (noCrack(crack)) {
            return no(2);
        }
        if (what < 4) {
            return is(cracks.get(crack)[what]);
        }
        if (what < 7) {
            return is(poleOfCrack(crack)[what - 4]);
        }
        if (what == 7) {
            return is(weight(crack));
        }
        if (what == 9) {
            return is(setOf(sets(), crack));
        }
        int found = 0;
        for (int i = 0; i < cracks.size(); i++) {
            found += alike(lieOfCrack(i), lieOfCrack(crack)) ? 1 : 0;
        }
        return is(found);
    }

    public int along(int line, int what) {
        if (!in(what, 0, 6)) {
            return no(1);
        }
        if (noLine(line)) {
            return no(2);
        }
        int[] l = lines.get(line);
        if (what < 3) {
            return is(l[what]);
        }
        if (what < 6) {
            return is(arrow(l[0], l[1])[what - 3]);
        }
        return is(cracks.stream().filter(c -> c[0] == line).count());
    }

    public int angle(int crack, int other) {
        if (noCrack(crack) || noCrack(other)) {
            return no(2);
        }
        return is(leastAngle(poleOfCrack(crack), poleOfCrack(other)));
    }

    public int near(int crack, int angle) {
        if (!in(angle, 0, 90)) {
            return no(1);
        }
        if (noCrack(crack)) {
            return no(2);
        }
        int found = 0;
        for (int i = 0; i < cracks.size(); i++) {
            found += isNear(poleOfCrack(i), poleOfCrack(crack), angle) ? 1 : 0;
        }
        return is(found);
    }

    public long set(int set, int what) {
        if (!in(what, 0, 11)) {
            return no(1);
        }
        if (noSet(set)) {
            return no(2);
        }
        List<Integer> m = sets().get(set);
        long length = longOf(sum(m, pole(seed(m))));
        switch (what) {
            case 0: return is(m.size());
            case 1: return is(mass(m));
            case 2: return is(lie(mean(m))[0]);
            case 3: return is(lie(mean(m))[1]);
            case 7: return is(length);
            case 8: return is(tight(mass(m), length));
            case 9: return is(cone(m));
            case 10: return is(half(m));
            case 11: return is(number(seed(m)));
            default: return is(mean(m)[what - 4]);
        }
    }

    public int member(int set, int k) {
        if (k < 0) {
            return no(1);
        }
        if (noSet(set)) {
            return no(2);
        }
        List<Integer> m = sets().get(set);
        return k < m.size() ? is(m.get(k)) : no(5);
    }

    public int stray(int k) {
        if (k < 0) {
            return no(1);
        }
        List<Integer> strays = new ArrayList<>();
        for (int i = 0; i < cracks.size(); i++) {
            if (setOf(sets(), i) < 0) {
                strays.add(i);
            }
        }
        return k < strays.size() ? is(strays.get(k)) : no(5);
    }

    public int apart(int set, int other) {
        if (notTwo(set, other)) {
            return no(2);
        }
        return is(leastAngle(mean(sets().get(set)), mean(sets().get(other))));
    }

    public int hangs(int crack, int other) {
        if (noCrack(crack) || noCrack(other)) {
            return no(2);
        }
        int by = 0;
        while (crack != other && !closure(by, -1)[crack][other]) {
            by++;
        }
        return is(by);
    }

    public int overlap(int set, int other, int what) {
        if (!in(what, 0, 1)) {
            return no(1);
        }
        if (notTwo(set, other)) {
            return no(2);
        }
        List<Integer> a = sets().get(set);
        List<Integer> b = sets().get(other);
        if (what == 0) {
            return is(leastAngle(mean(a), mean(b)) <= cone(a) + cone(b) ? 1 : 0);
        }
        long[] mean = mean(b);
        int cone = cone(b);
        return is(a.stream().filter(m -> isNear(poleOfCrack(m), mean, cone)).count());
    }

    public int digest() {
        int d = 17;
        int strays = cracks.size();
        for (List<Integer> s : sets()) {
            d = d * 31 + leastLie(s);
            d = d * 31 + s.size();
            strays -= s.size();
        }
        return is(d * 31 + strays);
    }

    public int without(int crack) {
        if (noCrack(crack)) {
            return no(2);
        }
        return is(setsBy(link, crack).size());
    }

    public int bridges(int what) {
        if (!in(what, 0, 1)) {
            return no(1);
        }
        List<Integer> found = new ArrayList<>();
        for (int i = 0; i < cracks.size(); i++) {
            int s = setOf(sets(), i);
            if (s < 0) {
                continue;
            }
            boolean[][] hang = closure(link, i);
            boolean torn = false;
            for (int a : sets().get(s)) {
                for (int b : sets().get(s)) {
                    torn |= a != i && b != i && !hang[a][b];
                }
            }
            if (torn) {
                found.add(i);
            }
        }
        if (what == 0) {
            return is(found.size());
        }
        return found.isEmpty() ? no(5) : is(found.get(0));
    }

    public int nearestSet(int crack, int what) {
        if (!in(what, 0, 1)) {
            return no(1);
        }
        if (noCrack(crack)) {
            return no(2);
        }
        List<long[]> means = new ArrayList<>();
        for (List<Integer> s : sets()) {
            means.add(mean(s));
        }
        if (means.isEmpty()) {
            return no(5);
        }
        int best = nearestMean(poleOfCrack(crack), means);
        return is(what == 0 ? best : leastAngle(poleOfCrack(crack), means.get(best)));
    }

    public int would(int by) {
        return in(by, 1, 45) ? is(setsBy(by, -1).size()) : no(1);
    }

    public int linkFor(int sets) {
        if (sets < 0) {
            return no(1);
        }
        for (int by = 1; by <= 45; by++) {
            if (setsBy(by, -1).size() == sets) {
                return is(by);
            }
        }
        return no(5);
    }

    public int settled(int reach, int what) {
        if (!in(reach, 1, 90) || !in(what, 0, 2)) {
            return no(1);
        }
        Rest rest = new Rest(reach);
        int elsewhere = 0;
        int nowhere = 0;
        List<List<Integer>> sets = sets();
        for (int i = 0; i < cracks.size(); i++) {
            elsewhere += rest.place[i] != setOf(sets, i) ? 1 : 0;
            nowhere += rest.place[i] < 0 ? 1 : 0;
        }
        return is(new int[] {rest.rounds, elsewhere, nowhere}[what]);
    }

    public int settledIn(int reach, int crack) {
        if (!in(reach, 1, 90)) {
            return no(1);
        }
        return noCrack(crack) ? no(2) : is(new Rest(reach).place[crack]);
    }

    public int settledLie(int reach, int set) {
        if (!in(reach, 1, 90)) {
            return no(1);
        }
        return noSet(set) ? no(2) : is(number(lie(new Rest(reach).means.get(set))));
    }

    public int thick(int direction, int dip, int angle) {
        if (!in(direction, 0, 359) || !in(dip, 0, 90) || !in(angle, 0, 90)) {
            return no(1);
        }
        return is(thickness(new int[] {direction, dip}, angle));
    }

    public int excess(int direction, int dip, int angle) {
        if (!in(direction, 0, 359) || !in(dip, 0, 90) || !in(angle, 0, 90)) {
            return no(1);
        }
        long mass = 0;
        for (int i = 0; i < cracks.size(); i++) {
            mass += weight(i);
        }
        return is(thickness(new int[] {direction, dip}, angle) - mass * (1000 - cosine(angle)) / 1000);
    }

    public int rose(int petal, int what) {
        if (!in(petal, 0, 17) || !in(what, 0, 1)) {
            return no(1);
        }
        long found = 0;
        for (int i = 0; i < cracks.size(); i++) {
            int strike = (plain(lieOfCrack(i))[0] + 90) % 180;
            if (cracks.get(i)[2] > 0 && strike >= 10 * petal && strike < 10 * petal + 10) {
                found += what == 0 ? 1 : weight(i);
            }
        }
        return is(found);
    }

    public int fabric(int what) {
        if (!in(what, 0, 5)) {
            return no(1);
        }
        return cracks.isEmpty() ? no(5) : is(fabricNow()[what]);
    }

    public int axis(boolean most, int what) {
        if (!in(what, 0, 1)) {
            return no(1);
        }
        if (cracks.isEmpty()) {
            return no(5);
        }
        long[] f = fabricNow();
        int[] best = null;
        long bestHas = 0;
        long bestSquare = 0;
        for (int dip = 0; dip <= 90; dip++) {
            for (int direction = 0; direction < 360; direction++) {
                long[] v = pole(new int[] {direction, dip});
                long has = f[0] * v[0] * v[0] + f[1] * v[1] * v[1] + f[2] * v[2] * v[2]
                    + 2 * f[3] * v[0] * v[1] + 2 * f[4] * v[0] * v[2] + 2 * f[5] * v[1] * v[2];
                long square = dot(v, v);
                int compared = best == null ? 1 : Long.compare(times(has, bestSquare), times(bestHas, square));
                if (best == null || (most ? compared > 0 : compared < 0)) {
                    best = new int[] {direction, dip};
                    bestHas = has;
                    bestSquare = square;
                }
            }
        }
        return is(plain(best)[what]);
    }

    public int nextLine(int what) {
        if (!in(what, 0, 2)) {
            return no(1);
        }
        if (cracks.isEmpty()) {
            return no(5);
        }
        int[] best = null;
        for (int plunge = 0; plunge <= 90; plunge += 10) {
            for (int trend = 0; trend <= 350; trend += 10) {
                long weights = 0;
                for (int i = 0; i < cracks.size(); i++) {
                    weights += weightBy(poleOfCrack(i), arrow(trend, plunge));
                }
                if (best == null || weights < best[2]) {
                    best = new int[] {trend, plunge, (int) weights};
                }
            }
        }
        return is(best[what]);
    }

    public int blind(int direction, int dip, int angle) {
        if (!in(direction, 0, 359) || !in(dip, 0, 90) || !in(angle, 0, 90)) {
            return no(1);
        }
        int bits = 0;
        for (int i = 0; i < lines.size(); i++) {
            long[] a = arrow(lines.get(i)[0], lines.get(i)[1]);
            bits |= isNear(pole(new int[] {direction, dip}), a, 90 - angle) ? 0 : 1 << i;
        }
        return is(bits);
    }

    public int peak(int angle, int what) {
        if (!in(angle, 0, 90) || !in(what, 0, 2)) {
            return no(1);
        }
        if (cracks.isEmpty()) {
            return no(5);
        }
        int[] best = null;
        for (int dip = 0; dip <= 90; dip += 10) {
            for (int direction = 0; direction <= 350; direction += 10) {
                long mass = thickness(new int[] {direction, dip}, angle);
                if (best == null || mass > best[2]) {
                    best = new int[] {direction, dip, (int) mass};
                }
            }
        }
        return is(best[what]);
    }

    public int spacing(int set, int line, int what) {
        if (!in(what, 0, 2)) {
            return no(1);
        }
        if (noSet(set) || noLine(line)) {
            return no(2);
        }
        List<Integer> m = sets().get(set);
        List<Integer> ats = ats(m, line);
        if (ats.size() < 2) {
            return no(5);
        }
        if (what == 2) {
            return is(trueSpacing(m, line));
        }
        return is(what == 0 ? ats.size() - 1 : apparent(ats));
    }

    public int meets(int set, int line, int trend, int plunge, int length) {
        if (!in(trend, 0, 359) || !in(plunge, 0, 90) || !in(length, 1, 100000)) {
            return no(1);
        }
        if (noSet(set) || noLine(line)) {
            return no(2);
        }
        List<Integer> m = sets().get(set);
        if (ats(m, line).size() < 2 || trueSpacing(m, line) == 0) {
            return no(5);
        }
        return is(length * c(mean(m), arrow(trend, plunge)) / 1000 / trueSpacing(m, line));
    }

    public long block(int a, int b, int c, int one, int two, int three) {
        if (!in(one, 1, 100000) || !in(two, 1, 100000) || !in(three, 1, 100000)) {
            return no(1);
        }
        if (notTwo(a, b) || notTwo(b, c) || notTwo(a, c)) {
            return no(2);
        }
        long[] others = cross(mean(sets().get(b)), mean(sets().get(c)));
        long v = Math.abs(dot(mean(sets().get(a)), others)) / 1000;
        if (v == 0) {
            return no(5);
        }
        status = 0;
        return times(one, two, three, 1000) / v;
    }

    public int wedge(int set, int other, int what) {
        if (!in(what, 0, 4)) {
            return no(1);
        }
        if (notTwo(set, other)) {
            return no(2);
        }
        long[] w = wedgeOf(sets(), set, other);
        if (w == null) {
            return no(5);
        }
        if (what > 1) {
            return is(w[what - 2]);
        }
        return is(what == 0 ? trend(w) : plunge(w));
    }

    public int risk(int what) {
        if (!in(what, 0, 3)) {
            return no(1);
        }
        int found = new Scene().by(slope)[what];
        return what == 3 && found < 0 ? no(5) : is(found);
    }

    public int safety(int set) {
        if (noSet(set)) {
            return no(2);
        }
        int dip = lie(mean(sets().get(set)))[1];
        if (dip == 0) {
            return no(5);
        }
        return is(100 * sine(slope[2]) * cosine(dip) / (cosine(slope[2]) * sine(dip)));
    }

    public int safest(int what) {
        if (!in(what, 0, 1)) {
            return no(1);
        }
        Scene scene = new Scene();
        int best = 0;
        for (int d = 10; d <= 350; d += 10) {
            if (scene.all(d, slope[1]) < scene.all(best, slope[1])) {
                best = d;
            }
        }
        return is(what == 0 ? best : scene.all(best, slope[1]));
    }

    public int steepest() {
        Scene scene = new Scene();
        int dip = 0;
        while (dip < 90 && scene.all(slope[0], dip + 1) == 0) {
            dip++;
        }
        return is(dip);
    }

    public int fold(int set, int other, int trend, int g) {
        if (!in(trend, 0, 359) || !in(g, -180, 180)) {
            return no(1);
        }
        if (notTwo(set, other)) {
            return no(2);
        }
        return is(foldBy(sets().get(set), sets().get(other), trend, g));
    }

    public int unfold(int set, int other, int trend, int what) {
        if (!in(trend, 0, 359) || !in(what, 0, 1)) {
            return no(1);
        }
        if (notTwo(set, other)) {
            return no(2);
        }
        List<Integer> a = sets().get(set);
        List<Integer> b = sets().get(other);
        int best = 0;
        for (int g = 1; g <= 90; g++) {
            if (foldBy(a, b, trend, g) > foldBy(a, b, trend, best)) {
                best = g;
            }
        }
        return is(what == 0 ? best : foldBy(a, b, trend, best));
    }
}
