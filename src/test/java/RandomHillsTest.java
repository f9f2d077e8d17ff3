import java.util.Arrays;
import java.util.Random;

/**
 * Random hills: every answer against one found by the plainest means, from rides of a model
 * that is written here again, or from the object's own simpler calls.
 */
public final class RandomHillsTest {
    private static final Random RANDOM = new Random(20261118);

    private RandomHillsTest() {
    }

    /** A hill and what happens on a ride down it, told by the words of the document. */
    private static final class Model implements Cloneable {
        int[][] stretches;
        int[][] riders;
        int start;
        int first = 0;
        int brakeAt = -1;
        int runAt = -1;
        int winds = 0;

        int at;
        int how;
        int speed;
        int rider;
        int[] speeds;
        int[] overs;
        int failed;
        int wed;
        int late;
        int rode;

        Model copy() {
            Model m = new Model();
            m.stretches = Arrays.stream(stretches).map(int[]::clone).toArray(int[][]::new);
            m.riders = Arrays.stream(riders).map(int[]::clone).toArray(int[][]::new);
            m.start = start;
            return m;
        }

        int holds(int kind) {
            int skill = riders[rider][1];
            return kind == 1 ? 10 + 4 * skill : kind == 3 ? 10 + 4 * skill - 5 : 99;
        }

        int goesOn(int kind, int figure, int v) {
            int weight = riders[rider][0];
            int road = v + weight - figure;
            int bend = v - figure;
            int[] by = {road, bend, v + weight + weight, bend < 0 ? 0 : bend / 2, road + 2, v - (figure + 5)};
            return Math.min(99, by[kind]);
        }

        Model ride() {
            at = 0;
            speed = start;
            speeds = new int[10];
            overs = new int[10];
            Arrays.fill(overs, -9);
            late = -9;
            rider = riders.length == 0 ? -9 : first;
            rode = 0;
            how = riders.length == 0 ? 1 : stretches.length == 0 ? 3 : 0;
            while (how == 0) {
                step();
            }
            return this;
        }

        private void step() {
            int[] s = stretches[at];
            speed = at == brakeAt ? speed / 2 : speed;
            speeds[at] = speed;
            if (s[2] >= 0) {
                change(s);
            }
            rode |= 1 << rider;
            if (speed > holds(s[0])) {
                how = 2;
                return;
            }
            speed = goesOn(s[0], s[1], speed) - ((winds >> at & 1) == 1 ? 5 : 0);
            if (speed <= 0) {
                speed = 0;
                how = 1;
                return;
            }
            overs[at] = rider;
            at++;
            if (at == stretches.length) {
                how = 3;
            }
        }

        private void change(int[] s) {
            int bound = 20 + 2 * riders[s[2]][1] + (at == runAt ? 10 : 0);
            if (speed > bound) {
                failed++;
                return;
            }
            if (s[0] >= 4 && s[2] != rider) {
                wed++;
            }
            late = at;
            rider = s[2];
        }

        int came() {
            return riders.length == 0 ? 0 : Math.min(at + 1, stretches.length);
        }

        FreeWheelDown object() {
            FreeWheelDown x = new FreeWheelDown();
            for (int[] s : stretches) {
                x.stretch(s[0], s[1]);
            }
            for (int[] r : riders) {
                x.rider(r[0], r[1]);
            }
            for (int s = 0; s < stretches.length; s++) {
                x.waits(s, stretches[s][2] < 0 ? -1 : stretches[s][2]);
            }
            x.starts(start);
            return x;
        }
    }

    private static Model random() {
        Model m = new Model();
        int n = RANDOM.nextInt(11);
        m.riders = new int[RANDOM.nextInt(12) == 0 ? 0 : 1 + RANDOM.nextInt(5)][];
        for (int r = 0; r < m.riders.length; r++) {
            m.riders[r] = new int[] {1 + RANDOM.nextInt(9), RANDOM.nextInt(10)};
        }
        m.stretches = new int[n][];
        for (int s = 0; s < n; s++) {
            int waits = RANDOM.nextInt(2) == 0 || m.riders.length == 0 ? -9 : RANDOM.nextInt(m.riders.length);
            m.stretches[s] = new int[] {RANDOM.nextInt(6), RANDOM.nextInt(10), waits};
        }
        m.start = RANDOM.nextInt(RANDOM.nextInt(3) == 0 ? 100 : 40);
        return m;
    }

    public static void main(String[] args) {
        for (int i = 0; i < 700; i++) {
            Model m = random();
            FreeWheelDown x = m.object();
            for (int k = 0; k < 24; k++) {
                m.ride();
                ask(m, x, RANDOM.nextInt(9));
                m = changed(m, x);
            }
        }
        Check.end();
    }

    private static void ask(Model m, FreeWheelDown x, int which) {
        switch (which) {
            case 0: theRide(m, x); break;
            case 1: theSteps(m, x); break;
            case 2: starts(m, x); break;
            case 3: changes(m, x); break;
            case 4: riders(m, x); break;
            case 5: rows(m, x); break;
            case 6: twoAndWind(m, x); break;
            case 7: otherHills(m, x); break;
            default: lots(m, x); break;
        }
    }

    /** Changes the hill between two questions, so that an answer from what an earlier one left behind is seen. */
    private static Model changed(Model m, FreeWheelDown x) {
        Model other = m.copy();
        int n = m.stretches.length;
        if (n > 0 && m.riders.length > 0 && RANDOM.nextInt(3) > 0) {
            int s = RANDOM.nextInt(n);
            other.stretches[s][2] = RANDOM.nextInt(m.riders.length + 1) - 1;
            x.waits(s, other.stretches[s][2]);
        }
        if (RANDOM.nextInt(2) == 0) {
            other.start = RANDOM.nextInt(RANDOM.nextInt(4) == 0 ? 100 : 40);
            x.starts(other.start);
        }
        if (n < 10 && RANDOM.nextInt(12) == 0) {
            other.stretches = Arrays.copyOf(other.stretches, n + 1);
            other.stretches[n] = new int[] {RANDOM.nextInt(6), RANDOM.nextInt(10), -9};
            x.stretch(other.stretches[n][0], other.stretches[n][1]);
        }
        return other;
    }

    private static void theRide(Model m, FreeWheelDown x) {
        int[] ride = {m.at, m.how, m.speed, Integer.bitCount(m.rode), m.failed};
        for (int what = 0; what < 5; what++) {
            Check.due("ride(" + what + ")", x.ride(what), ride[what]);
        }
        int fastest = -9;
        int smithy = -9;
        int sum = 0;
        for (int s = m.came() - 1; s >= 0; s--) {
            fastest = fastest == -9 || m.speeds[s] >= m.speeds[fastest] ? s : fastest;
            smithy = m.stretches[s][0] == 3 && m.overs[s] >= 0 ? s : smithy;
            sum += m.speeds[s];
        }
        Check.due("fastest(0)", x.fastest(0), fastest == -9 ? -9 : m.speeds[fastest]);
        Check.due("fastest(1)", x.fastest(1), fastest);
        Check.due("smithy()", x.smithy(), smithy);
        Check.due("mean", x.mean(0) * Math.max(m.came(), 1), sum * x.mean(1));
        int v = RANDOM.nextInt(100);
        int above = 0;
        while (above < m.came() && m.speeds[above] < v) {
            above++;
        }
        Check.due("above(" + v + ")", x.above(v), above == m.came() ? -9 : above);
        Check.due("straights(2)", x.straights(2), m.wed);
        Check.due("waiting(2)", x.waiting(2), m.late);
        int[] shares = new int[m.riders.length];
        for (int s = 0; s < m.stretches.length; s++) {
            Check.due("who(" + s + ")", x.who(s), m.overs[s]);
            int behind = s + 1 < m.at ? m.speeds[s + 1] : m.speed;
            behind = s + 1 == m.at && m.how != 3 ? m.speeds[s + 1] : behind;
            Check.due("gain(" + s + ")", x.gain(s), m.overs[s] < 0 ? 0 : behind - m.speeds[s]);
            if (m.overs[s] >= 0) {
                shares[m.overs[s]]++;
            }
        }
        int idle = 0;
        for (int r = 0; r < shares.length; r++) {
            Check.due("shares(" + r + ")", x.shares(r), shares[r]);
            idle |= shares[r] == 0 ? 1 << r : 0;
        }
        Arrays.sort(shares);
        Check.due("shares(-1)", x.shares(-1), shares.length == 0 ? 0 : shares[shares.length - 1] - shares[0]);
        Check.due("waiting(1)", x.waiting(1), idle);
    }

    private static void theSteps(Model m, FreeWheelDown x) {
        if (x.count(3) > 900) {
            return;
        }
        x.begins();
        for (int k = 0; k <= 11; k++) {
            boolean over = k >= m.at;
            Check.due("behind(" + k + ", 0)", x.behind(k, 0), over ? m.at : k);
            if (!over) {
                Check.due("behind(" + k + ", 1)", x.behind(k, 1), m.speeds[k]);
            }
        }
        int steps = x.count(3);
        Check.due("steps(60)", x.steps(60), m.how);
        Check.due("steps", x.count(3) - steps, m.how == 3 ? m.at : m.riders.length == 0 ? 0 : m.at + 1);
        int[] bicycle = {m.at, m.speed, m.rider, m.how};
        for (int what = 0; what < 4; what++) {
            Check.due("bicycle(" + what + ")", x.bicycle(what), bicycle[what]);
        }
    }

    private static void starts(Model m, FreeWheelDown x) {
        int best = 0;
        int end = -1;
        int arrives = -9;
        Model n = m.copy();
        for (n.start = 0; n.start < 100; n.start++) {
            n.ride();
            if (n.at > end) {
                end = n.at;
                best = n.start;
            }
            arrives = arrives == -9 && n.how == 3 ? n.start : arrives;
        }
        Check.due("bestStart(0)", x.bestStart(0), best);
        Check.due("bestStart(1)", x.bestStart(1), end);
        Check.due("bestStart(2)", x.bestStart(2), arrives);
    }

    private static void changes(Model m, FreeWheelDown x) {
        int n = m.stretches.length;
        int had = 0;
        for (int s = 0; s < n; s++) {
            had |= m.stretches[s][2] >= 0 ? 1 << s : 0;
        }
        int best = had;
        for (int bits = had; ; bits = bits - 1 & had) {
            Model kept = m.copy();
            for (int s = 0; s < n; s++) {
                kept.stretches[s][2] = (bits >> s & 1) == 1 ? kept.stretches[s][2] : -9;
            }
            boolean better = Integer.bitCount(bits) <= Integer.bitCount(best);
            best = better && kept.ride().at >= m.at ? bits : best;
            if (bits == 0) {
                break;
            }
        }
        Check.due("fewest(0)", x.fewest(0), best);
        if (n < 3) {
            return;
        }
        int a = RANDOM.nextInt(n);
        int b = (a + 1 + RANDOM.nextInt(n - 1)) % n;
        int c = 0;
        while (c == a || c == b) {
            c++;
        }
        int digits = 0;
        int end = -1;
        Model told = m.copy();
        for (int i = -1; i < m.riders.length; i++) {
            for (int j = -1; j < m.riders.length; j++) {
                for (int k = -1; k < m.riders.length; k++) {
                    told.stretches[a][2] = i;
                    told.stretches[b][2] = j;
                    told.stretches[c][2] = k;
                    if (told.ride().at > end) {
                        end = told.at;
                        digits = 100 * ((i + 10) % 10) + 10 * ((j + 10) % 10) + (k + 10) % 10;
                    }
                }
            }
        }
        Check.due("bestChanges 0", x.bestChanges(a, b, c, 0), digits);
        Check.due("bestChanges 1", x.bestChanges(a, b, c, 1), end);
    }

    private static void riders(Model m, FreeWheelDown x) {
        int solo = 0;
        for (int r = 0; r < m.riders.length; r++) {
            Model alone = m.copy();
            for (int[] s : alone.stretches) {
                s[2] = -9;
            }
            alone.first = r;
            solo |= alone.ride().at >= m.at ? 1 << r : 0;
            int wanted = -9;
            Model other = m.copy();
            for (int skill = 9; skill >= 0; skill--) {
                other.riders[r][1] = skill;
                wanted = other.ride().how == 3 ? skill : wanted;
            }
            Check.due("skillWanted(" + r + ")", x.skillWanted(r), wanted);
        }
        Check.due("fewest(1)", x.fewest(1), solo);
        int heaviest = -9;
        Model other = m.copy();
        for (int weight = 1; weight <= 9 && m.riders.length > 0; weight++) {
            other.riders[0][0] = weight;
            heaviest = other.ride().how == 3 ? weight : heaviest;
        }
        Check.due("heaviest()", x.heaviest(), heaviest);
    }

    private static boolean begins(Model m, int[] row) {
        return Arrays.equals(row, Arrays.copyOf(m.ride().speeds, row.length));
    }

    private static void rows(Model m, FreeWheelDown x) {
        int n = m.stretches.length;
        int[] row = Arrays.copyOf(m.speeds, RANDOM.nextInt(n + 1));
        if (row.length > 0 && RANDOM.nextInt(4) == 0) {
            row[RANDOM.nextInt(row.length)] = RANDOM.nextInt(20);
        }
        Check.row(x, row);
        int many = 0;
        int least = -9;
        Model other = m.copy();
        for (other.start = 99; other.start >= 0; other.start--) {
            if (begins(other, row)) {
                many++;
                least = other.start;
            }
        }
        Check.due("startTold(0)", x.startTold(0), many);
        Check.due("startTold(1)", x.startTold(1), least);
        if (m.riders.length > 0) {
            Check.due("whoRode(0)", x.whoRode(0), told(m, row, -1, 0, 1, 9));
            Check.due("whoRode(1)", x.whoRode(1), told(m, row, -1, 1, 0, 9));
        }
        if (n > 0) {
            int s = RANDOM.nextInt(n);
            Check.due("whatKind 0", x.whatKind(s, 0), told(m, row, s, 0, 0, 5));
            Check.due("whatKind 1", x.whatKind(s, 1), told(m, row, s, 1, 0, 9));
        }
        int[] judged = new int[RANDOM.nextInt(n + 2)];
        for (int i = 0; i < judged.length && i < 10; i++) {
            judged[i] = m.overs[i] < 0 ? 9 : m.overs[i];
        }
        int due = judged.length > n ? n : -9;
        if (n > 0 && judged.length > 0 && RANDOM.nextInt(2) == 0) {
            due = RANDOM.nextInt(Math.min(judged.length, n));
            judged[due] = (judged[due] + 1 + RANDOM.nextInt(9)) % 10;
        }
        Check.row(x, judged);
        Check.due("judge()", x.judge(), due);
    }

    /** Bits of the values of a stretch (-1: of rider 0) by which a row is so. */
    private static int told(Model m, int[] row, int stretch, int place, int least, int most) {
        Model other = m.copy();
        int bits = 0;
        for (int value = least; value <= most; value++) {
            (stretch < 0 ? other.riders[0] : other.stretches[stretch])[place] = value;
            bits |= begins(other, row) ? 1 << value : 0;
        }
        return bits;
    }

    private static void twoAndWind(Model m, FreeWheelDown x) {
        int n = m.stretches.length;
        if (n > 0 && m.riders.length > 0) {
            int s = RANDOM.nextInt(n);
            int r = RANDOM.nextInt(m.riders.length);
            Check.due("two(" + s + ", " + r + ")", x.two(s, r), s >= m.came() ? -9 : two(m, s, r));
        }
        int windy = RANDOM.nextInt(Math.min(n, 8) + 1);
        int t = 2 + RANDOM.nextInt(19);
        long above = windyWays(m.copy(), windy, t, 0);
        long below = 1;
        for (int i = 0; i < windy; i++) {
            below *= t;
        }
        long common = java.math.BigInteger.valueOf(above).gcd(java.math.BigInteger.valueOf(below)).longValue();
        Check.due("wind 0", x.wind(windy, t, 0), above / common);
        Check.due("wind 1", x.wind(windy, t, 1), below / common);
    }

    private static int two(Model m, int stretch, int rider) {
        int[][] first = new int[2][2];
        int[][] other = new int[2][2];
        for (int b = 0; b < 2; b++) {
            for (int r = 0; r < 2; r++) {
                Model way = m.copy();
                way.stretches[stretch][2] = rider;
                way.brakeAt = b == 1 ? stretch : -1;
                way.runAt = r == 1 ? stretch : -1;
                first[b][r] = way.ride().at - b;
                other[b][r] = way.at - r;
            }
        }
        for (int b = 0; b < 2; b++) {
            for (int r = 0; r < 2; r++) {
                if (first[1 - b][r] <= first[b][r] && other[b][1 - r] <= other[b][r]) {
                    return 10 * b + r;
                }
            }
        }
        return -9;
    }

    private static long windyWays(Model m, int left, int t, int winds) {
        if (left == 0) {
            m.winds = winds;
            return m.ride().how == 3 ? 1 : 0;
        }
        long with = windyWays(m, left - 1, t, winds | 1 << left - 1);
        return with + (t - 1) * windyWays(m, left - 1, t, winds);
    }

    private static void otherHills(Model m, FreeWheelDown x) {
        int n = m.stretches.length;
        int swap = -9;
        int end = m.at;
        for (int i = 0; i < n; i++) {
            for (int j = i + 1; j < n; j++) {
                Model other = m.copy();
                other.stretches[i] = new int[] {m.stretches[j][0], m.stretches[j][1], m.stretches[i][2]};
                other.stretches[j] = new int[] {m.stretches[i][0], m.stretches[i][1], m.stretches[j][2]};
                if (other.ride().at > end) {
                    end = other.at;
                    swap = 10 * i + j;
                }
            }
        }
        Check.due("swap()", x.swap(), swap);
        int cut = -9;
        int brake = -9;
        end = m.at;
        for (int s = 0; s < n; s++) {
            Model without = m.copy();
            without.stretches = new int[n - 1][];
            for (int i = 0; i < n - 1; i++) {
                without.stretches[i] = m.stretches[i < s ? i : i + 1];
            }
            cut = cut == -9 && m.how != 3 && without.ride().how == 3 ? s : cut;
            Model braked = m.copy();
            braked.brakeAt = s;
            if (braked.ride().at > end) {
                end = braked.at;
                brake = s;
            }
        }
        Check.due("cut()", x.cut(), cut);
        Check.due("brake()", x.brake(), brake);
    }

    private static void lots(Model m, FreeWheelDown x) {
        int seed = RANDOM.nextInt();
        int n = 1 + RANDOM.nextInt(20);
        Model other = m.copy();
        int z = seed;
        int over = 0;
        int arriving = 0;
        for (int i = 0; i < n; i++) {
            for (int[] s : other.stretches) {
                z = z * 1103515245 + 12345;
                int drawn = (z >>> 16 & 0x7fff) % (m.riders.length + 1);
                s[2] = drawn == m.riders.length ? -9 : drawn;
            }
            over += other.ride().at;
            arriving += other.how == 3 ? 1 : 0;
        }
        Check.due("lots 0", x.lots(n, seed, 0), over);
        Check.due("lots 1", x.lots(n, seed, 1), arriving);
    }
}
