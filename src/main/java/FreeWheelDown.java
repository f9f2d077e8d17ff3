/**
 * A hill of stretches, ridden down by riders who hand one bicycle on to each other.
 * What each call answers is told by the numbered promises of ../shared/DOC.md.
 */
public final class FreeWheelDown {
    private static final int NOBODY = -1;
    private static final int OTHER = -2;
    private static final int STATE = -3;
    private static final int BELOW = -4;
    private static final int ROOM = -6;
    private static final int NONE = -9;

    private static final int BEND = 1;
    private static final int DIP = 2;
    private static final int SMITHY = 3;
    private static final int STRAIGHT = 4;
    private static final int LEVEL = 5;
    private static final int KINDS = 6;

    private static final int GOES = 0;
    private static final int STANDS = 1;
    private static final int FALLEN = 2;
    private static final int ARRIVED = 3;

    private static final int MOST_STRETCHES = 10;
    private static final int MOST_RIDERS = 5;
    private static final int MOST_LETTERS = 96;
    private static final int MOST_TOLD = 12;
    private static final int MOST_BACK = 8;
    private static final int MOST_SPEED = 99;
    private static final int MOST_STEPS = 999;
    private static final int MOST_STEPS_AT_ONCE = 60;
    private static final int MOST_WINDS = 8;
    private static final int MOST_ODDS = 20;
    private static final int MOST_CENTURIES = 20;
    private static final int BIGGEST_DIGIT = 9;
    private static final int WIND = 5;
    private static final int RUN = 10;
    private static final int NOWHERE = -1;

    private static final int GAIN_REFUSED = 1000000000;
    private static final long LONG_REFUSED = 4000000000000000000L;

    private final Hill now = new Hill();
    /** Every question changes and rides this one, so that the hill itself stays as it is. */
    private final Hill mind = new Hill();
    private final Hill kept = new Hill();
    private boolean hasImage = false;
    private final Trip trip = new Trip();
    private final Past past = new Past();
    private final Letters letters = new Letters();
    private final Numbers told = new Numbers(MOST_TOLD);
    private final int[] refusals = new int[6];
    /** How far the four ways of two() go: 2 times whether the first brakes, and whether the other runs. */
    private final int[] fourEnds = new int[4];

    public FreeWheelDown() {
    }

    // ---- letters ----

    public int feed(int letter) {
        if (letter < 0) {
            return refuse(BELOW);
        }
        if (letter > 255 || letters.text.isFull()) {
            return refuse(ROOM);
        }
        return letters.text.append(letter);
    }

    public int hill() {
        int answer = letters.faultOfForm();
        if (answer == 0) {
            mind.becomeLike(now);
            answer = letters.comeTo(mind);
        }
        if (answer > 0) {
            now.becomeLike(mind);
            past.forget();
        }
        letters.text.empty();
        return answer;
    }

    // ---- what there is ----

    public int stretchOf(int stretch, int what) {
        if (!now.hasStretch(stretch)) {
            return refuse(NOBODY);
        }
        switch (what) {
            case 0: return get(now.kinds, stretch);
            case 1: return get(now.figures, stretch);
            case 2: return get(now.changes, stretch);
            default: return refuse(OTHER);
        }
    }

    public int riderOf(int rider, int what) {
        if (!now.hasRider(rider)) {
            return refuse(NOBODY);
        }
        switch (what) {
            case 0: return get(now.weights, rider);
            case 1: return get(now.skills, rider);
            default: return refuse(OTHER);
        }
    }

    public int bicycle(int what) {
        if (what < 0 || what > 3) {
            return refuse(OTHER);
        }
        return now.ofBicycle(what);
    }

    public int goesOn(int stretch, int rider, int v) {
        if (!now.hasStretch(stretch) || !now.hasRider(rider)) {
            return refuse(NOBODY);
        }
        if (v < 0) {
            return refuse(BELOW);
        }
        if (v > MOST_SPEED) {
            return refuse(ROOM);
        }
        return Math.max(now.speedBehind(stretch, rider, v), 0);
    }

    public int holds(int stretch, int rider) {
        if (!now.hasStretch(stretch) || !now.hasRider(rider)) {
            return refuse(NOBODY);
        }
        return now.mostHeld(stretch, rider);
    }

    public int count(int what) {
        if (what >= 11 && what <= 16) {
            return get(refusals, what - 11);
        }
        switch (what) {
            case 0: return now.stretches;
            case 1: return now.riders;
            case 2: return now.start;
            case 3: return now.stepsGone;
            case 4: return Integer.bitCount(now.changesAsBits());
            case 5: return letters.text.size;
            case 6: return told.size;
            case 7: return past.size;
            default: return NONE;
        }
    }

    // ---- what changes the hill ----

    public int stretch(int kind, int figure) {
        if (kind < 0 || kind >= KINDS) {
            return refuse(OTHER);
        }
        if (figure < 0) {
            return refuse(BELOW);
        }
        if (figure > BIGGEST_DIGIT || now.stretches >= MOST_STRETCHES) {
            return refuse(ROOM);
        }
        past.forget();
        return now.addStretch(kind, figure);
    }

    public int rider(int weight, int skill) {
        if (weight < 1 || skill < 0) {
            return refuse(BELOW);
        }
        if (weight > BIGGEST_DIGIT || skill > BIGGEST_DIGIT || now.riders >= MOST_RIDERS) {
            return refuse(ROOM);
        }
        past.forget();
        return now.addRider(weight, skill);
    }

    public int waits(int stretch, int rider) {
        if (!now.hasStretch(stretch) || (rider != -1 && !now.hasRider(rider))) {
            return refuse(NOBODY);
        }
        past.keep(now);
        int before = get(now.changes, stretch);
        put(now.changes, stretch, rider == -1 ? NONE : rider);
        return before;
    }

    public int starts(int v) {
        if (v < 0) {
            return refuse(BELOW);
        }
        if (v > MOST_SPEED) {
            return refuse(ROOM);
        }
        past.keep(now);
        int before = now.start;
        now.start = v;
        return before;
    }

    public int begins() {
        past.keep(now);
        now.begin();
        return now.how;
    }

    public int steps(int n) {
        if (n < 1) {
            return refuse(BELOW);
        }
        if (!now.hasRoomForSteps(n)) {
            return refuse(ROOM);
        }
        past.keep(now);
        now.go(n);
        return now.how;
    }

    public int back() {
        if (past.size == 0) {
            return refuse(STATE);
        }
        past.takeBack(now);
        return past.size;
    }

    public int image() {
        kept.becomeLike(now);
        hasImage = true;
        return now.stepsGone;
    }

    public int restore() {
        if (!hasImage) {
            return refuse(STATE);
        }
        now.becomeLike(kept);
        past.forget();
        return now.stepsGone;
    }

    // ---- a ride as it is now ----

    public int behind(int k, int what) {
        if (k < 0) {
            return refuse(BELOW);
        }
        if (k > MOST_STEPS_AT_ONCE) {
            return refuse(ROOM);
        }
        if (what < 0 || what > 3) {
            return refuse(OTHER);
        }
        mind.becomeLike(now);
        mind.go(k);
        return mind.ofBicycle(what);
    }

    public int ride(int what) {
        rideAsNow();
        switch (what) {
            case 0: return mind.at;
            case 1: return mind.how;
            case 2: return mind.speed;
            case 3: return Integer.bitCount(trip.rode);
            case 4: return trip.failed;
            default: return refuse(OTHER);
        }
    }

    public int fastest(int what) {
        if (what != 0 && what != 1) {
            return refuse(OTHER);
        }
        rideAsNow();
        int first = trip.fastestStretch();
        return what == 1 || first == NONE ? first : get(trip.speeds, first);
    }

    public int above(int v) {
        if (v < 0) {
            return refuse(BELOW);
        }
        if (v > MOST_SPEED) {
            return refuse(ROOM);
        }
        rideAsNow();
        for (int s = 0; s < trip.came; s++) {
            if (get(trip.speeds, s) >= v) {
                return s;
            }
        }
        return NONE;
    }

    public int smithy() {
        rideAsNow();
        for (int s = 0; s < now.stretches; s++) {
            if (get(now.kinds, s) == SMITHY && trip.overBy(s) != NONE) {
                return s;
            }
        }
        return NONE;
    }

    public int who(int stretch) {
        if (!now.hasStretch(stretch)) {
            return refuse(NOBODY);
        }
        rideAsNow();
        return trip.overBy(stretch);
    }

    public int shares(int rider) {
        if (rider != -1 && !now.hasRider(rider)) {
            return refuse(NOBODY);
        }
        rideAsNow();
        return rider == -1 ? spreadOfShares() : trip.shareOf(rider);
    }

    public long mean(int part) {
        if (part != 0 && part != 1) {
            return LONG_REFUSED - refuse(OTHER);
        }
        rideAsNow();
        long sum = 0;
        for (int s = 0; s < trip.came; s++) {
            sum += get(trip.speeds, s);
        }
        return inLowestTerms(sum, trip.came, part);
    }

    public int gain(int stretch) {
        if (!now.hasStretch(stretch)) {
            return GAIN_REFUSED - refuse(NOBODY);
        }
        rideAsNow();
        return get(trip.gains, stretch);
    }

    public int waiting(int what) {
        switch (what) {
            case 0: return now.waitingAsBits();
            case 1: return idleAsBits();
            case 2:
                rideAsNow();
                return trip.late;
            default: return refuse(OTHER);
        }
    }

    public int straights(int what) {
        switch (what) {
            case 0: return now.mostStraights();
            case 1: return now.firstOfMostStraights();
            case 2:
                rideAsNow();
                return trip.wed;
            default: return refuse(OTHER);
        }
    }

    public int lightest(int what) {
        switch (what) {
            case 0: return now.lightestRider();
            case 1: return now.mostSkilledRider();
            default: return refuse(OTHER);
        }
    }

    public int bends() {
        int many = 0;
        for (int s = 0; s < now.stretches; s++) {
            int kind = get(now.kinds, s);
            if (kind == BEND || kind == SMITHY) {
                many++;
            }
        }
        return many;
    }

    // ---- rides as they would be ----

    public int bestStart(int what) {
        if (what < 0 || what > 2) {
            return refuse(OTHER);
        }
        if (what == 2) {
            return leastStartThatArrives();
        }
        mind.becomeLike(now);
        int best = 0;
        int farthest = -1;
        for (int v = 0; v <= MOST_SPEED; v++) {
            mind.start = v;
            int end = trip.endOf(mind);
            if (end > farthest) {
                farthest = end;
                best = v;
            }
        }
        return what == 0 ? best : farthest;
    }

    public int bestChanges(int a, int b, int c, int what) {
        if (!now.hasStretch(a) || !now.hasStretch(b) || !now.hasStretch(c) || a == b || a == c || b == c) {
            return refuse(NOBODY);
        }
        if (what != 0 && what != 1) {
            return refuse(OTHER);
        }
        mind.becomeLike(now);
        int best = 0;
        int farthest = -1;
        for (int i = 0; i <= now.riders; i++) {
            put(mind.changes, a, riderOfWay(i));
            for (int j = 0; j <= now.riders; j++) {
                put(mind.changes, b, riderOfWay(j));
                for (int k = 0; k <= now.riders; k++) {
                    put(mind.changes, c, riderOfWay(k));
                    int end = trip.endOf(mind);
                    if (end > farthest) {
                        farthest = end;
                        best = 100 * digitOfWay(i) + 10 * digitOfWay(j) + digitOfWay(k);
                    }
                }
            }
        }
        return what == 0 ? best : farthest;
    }

    public int fewest(int what) {
        switch (what) {
            case 0: return fewestChanges();
            case 1: return soloRiders();
            default: return refuse(OTHER);
        }
    }

    public int heaviest() {
        mind.becomeLike(now);
        for (int weight = BIGGEST_DIGIT; weight >= 1; weight--) {
            put(mind.weights, 0, weight);
            if (trip.arrives(mind)) {
                return weight;
            }
        }
        return NONE;
    }

    public int skillWanted(int rider) {
        if (!now.hasRider(rider)) {
            return refuse(NOBODY);
        }
        mind.becomeLike(now);
        for (int skill = 0; skill <= BIGGEST_DIGIT; skill++) {
            put(mind.skills, rider, skill);
            if (trip.arrives(mind)) {
                return skill;
            }
        }
        return NONE;
    }

    public int two(int stretch, int rider) {
        if (!now.hasStretch(stretch) || !now.hasRider(rider)) {
            return refuse(NOBODY);
        }
        rideAsNow();
        if (stretch >= trip.came) {
            return NONE;
        }
        put(mind.changes, stretch, rider);
        for (int pair = 0; pair < 4; pair++) {
            int brakeAt = pair / 2 == 1 ? stretch : NOWHERE;
            int runAt = pair % 2 == 1 ? stretch : NOWHERE;
            trip.run(mind, 0, brakeAt, runAt, 0);
            put(fourEnds, pair, mind.at);
        }
        for (int pair = 0; pair < 4; pair++) {
            if (neitherHasMoreAlone(pair / 2, pair % 2)) {
                return 10 * (pair / 2) + pair % 2;
            }
        }
        return NONE;
    }

    public long wind(int n, int t, int part) {
        if (n < 0 || t < 2) {
            return LONG_REFUSED - refuse(BELOW);
        }
        if (n > MOST_WINDS || n > now.stretches || t > MOST_ODDS) {
            return LONG_REFUSED - refuse(ROOM);
        }
        if (part != 0 && part != 1) {
            return LONG_REFUSED - refuse(OTHER);
        }
        mind.becomeLike(now);
        long arriving = 0;
        for (int winds = 0; winds < 1 << n; winds++) {
            trip.run(mind, 0, NOWHERE, NOWHERE, winds);
            if (mind.how == ARRIVED) {
                arriving += power(t - 1, n - Integer.bitCount(winds));
            }
        }
        return inLowestTerms(arriving, power(t, n), part);
    }

    public int swap() {
        rideAsNow();
        int farthest = mind.at;
        int best = NONE;
        for (int i = 0; i < now.stretches; i++) {
            for (int j = i + 1; j < now.stretches; j++) {
                mind.changePlaces(i, j);
                int end = trip.endOf(mind);
                mind.changePlaces(i, j);
                if (end > farthest) {
                    farthest = end;
                    best = 10 * i + j;
                }
            }
        }
        return best;
    }

    public int cut() {
        rideAsNow();
        if (mind.how == ARRIVED) {
            return NONE;
        }
        for (int s = 0; s < now.stretches; s++) {
            mind.becomeLike(now);
            mind.leaveOut(s);
            if (trip.arrives(mind)) {
                return s;
            }
        }
        return NONE;
    }

    public int brake() {
        rideAsNow();
        int farthest = mind.at;
        int best = NONE;
        for (int s = 0; s < now.stretches; s++) {
            trip.run(mind, 0, s, NOWHERE, 0);
            if (mind.at > farthest) {
                farthest = mind.at;
                best = s;
            }
        }
        return best;
    }

    public int lots(int n, int z, int what) {
        if (n < 1) {
            return refuse(BELOW);
        }
        if (n > MOST_CENTURIES) {
            return refuse(ROOM);
        }
        if (what != 0 && what != 1) {
            return refuse(OTHER);
        }
        mind.becomeLike(now);
        int seed = z;
        int over = 0;
        int arriving = 0;
        for (int century = 0; century < n; century++) {
            seed = drawChanges(seed);
            over += trip.endOf(mind);
            if (mind.how == ARRIVED) {
                arriving++;
            }
        }
        return what == 0 ? over : arriving;
    }

    // ---- the row ----

    public int row(int v) {
        if (v < 0) {
            return refuse(BELOW);
        }
        if (v > MOST_SPEED || told.isFull()) {
            return refuse(ROOM);
        }
        return told.append(v);
    }

    public int clear() {
        int had = told.size;
        told.empty();
        return had;
    }

    public int judge() {
        rideAsNow();
        int answer = firstNotAsJudged();
        told.empty();
        return answer;
    }

    public int whoRode(int what) {
        if (what != 0 && what != 1) {
            return refuse(OTHER);
        }
        if (told.size > now.stretches || now.riders == 0) {
            return refuse(STATE);
        }
        return what == 0 ? tellingValues(0, mind.weights, 1, BIGGEST_DIGIT)
            : tellingValues(0, mind.skills, 0, BIGGEST_DIGIT);
    }

    public int whatKind(int stretch, int what) {
        if (!now.hasStretch(stretch)) {
            return refuse(NOBODY);
        }
        if (what != 0 && what != 1) {
            return refuse(OTHER);
        }
        if (told.size > now.stretches) {
            return refuse(STATE);
        }
        return what == 0 ? tellingValues(stretch, mind.kinds, 0, KINDS - 1)
            : tellingValues(stretch, mind.figures, 0, BIGGEST_DIGIT);
    }

    public int startTold(int what) {
        if (what != 0 && what != 1) {
            return refuse(OTHER);
        }
        if (told.size > now.stretches) {
            return refuse(STATE);
        }
        mind.becomeLike(now);
        int many = 0;
        int least = NONE;
        for (int v = 0; v <= MOST_SPEED; v++) {
            mind.start = v;
            trip.endOf(mind);
            if (trip.startsLike(told)) {
                many++;
                least = least == NONE ? v : least;
            }
        }
        return what == 0 ? many : least;
    }

    // ---- helpers of the calls ----

    private int refuse(int number) {
        int place = -number - 1;
        put(refusals, place, get(refusals, place) + 1);
        return number;
    }

    private void rideAsNow() {
        mind.becomeLike(now);
        trip.endOf(mind);
    }

    private int leastStartThatArrives() {
        mind.becomeLike(now);
        for (int v = 0; v <= MOST_SPEED; v++) {
            mind.start = v;
            if (trip.arrives(mind)) {
                return v;
            }
        }
        return NONE;
    }

    /** Of the ways to fill one place: none comes first, then the riders. */
    private static int riderOfWay(int way) {
        return way == 0 ? NONE : way - 1;
    }

    private static int digitOfWay(int way) {
        return way == 0 ? 9 : way - 1;
    }

    private int fewestChanges() {
        rideAsNow();
        int goal = mind.at;
        int had = now.changesAsBits();
        int best = had;
        for (int bits = 0; bits < 1 << now.stretches; bits++) {
            boolean fewer = Integer.bitCount(bits) < Integer.bitCount(best);
            if ((bits & ~had) == 0 && fewer && endKeeping(bits) >= goal) {
                best = bits;
            }
        }
        return best;
    }

    private int endKeeping(int bits) {
        for (int s = 0; s < now.stretches; s++) {
            put(mind.changes, s, hasBit(bits, s) ? get(now.changes, s) : NONE);
        }
        return trip.endOf(mind);
    }

    private int soloRiders() {
        rideAsNow();
        int goal = mind.at;
        int solo = 0;
        for (int s = 0; s < now.stretches; s++) {
            put(mind.changes, s, NONE);
        }
        for (int r = 0; r < now.riders; r++) {
            trip.run(mind, r, NOWHERE, NOWHERE, 0);
            if (mind.at >= goal) {
                solo |= 1 << r;
            }
        }
        return solo;
    }

    private int spreadOfShares() {
        if (now.riders == 0) {
            return 0;
        }
        int most = trip.shareOf(0);
        int least = most;
        for (int r = 1; r < now.riders; r++) {
            most = Math.max(most, trip.shareOf(r));
            least = Math.min(least, trip.shareOf(r));
        }
        return most - least;
    }

    private int idleAsBits() {
        rideAsNow();
        int idle = 0;
        for (int r = 0; r < now.riders; r++) {
            if (trip.shareOf(r) == 0) {
                idle |= 1 << r;
            }
        }
        return idle;
    }

    private boolean neitherHasMoreAlone(int brakes, int runs) {
        int end = get(fourEnds, 2 * brakes + runs);
        int firstElse = get(fourEnds, 2 * (1 - brakes) + runs);
        int otherElse = get(fourEnds, 2 * brakes + 1 - runs);
        return firstElse - (1 - brakes) <= end - brakes && otherElse - (1 - runs) <= end - runs;
    }

    /** Fills the changes of the hill in mind by lot, and tells the seed for the next draw. */
    private int drawChanges(int seed) {
        int z = seed;
        int ways = now.riders + 1;
        for (int s = 0; s < now.stretches; s++) {
            z = z * 1103515245 + 12345;
            int drawn = ways < 1 ? 0 : (z & 0x7fffffff) / 65536 % ways;
            put(mind.changes, s, drawn == now.riders ? NONE : drawn);
        }
        return z;
    }

    private int firstNotAsJudged() {
        for (int i = 0; i < told.size; i++) {
            int rider = trip.overBy(i);
            int due = rider == NONE ? 9 : rider;
            if (!now.hasStretch(i) || told.at(i) != due) {
                return i;
            }
        }
        return NONE;
    }

    /** The values, as bits, that one place of a row of the hill in mind may have for the told speeds. */
    private int tellingValues(int place, int[] rowOfMind, int least, int most) {
        mind.becomeLike(now);
        int bits = 0;
        for (int value = least; value <= most; value++) {
            put(rowOfMind, place, value);
            trip.endOf(mind);
            if (trip.startsLike(told)) {
                bits |= 1 << value;
            }
        }
        return bits;
    }

    // ---- numbers ----

    private static int get(int[] row, int place) {
        return row != null && place >= 0 && place < row.length ? row[place] : 0;
    }

    private static void put(int[] row, int place, int value) {
        if (row != null && place >= 0 && place < row.length) {
            row[place] = value;
        }
    }

    private static void copyRow(int[] from, int[] to) {
        for (int i = 0; to != null && i < to.length; i++) {
            to[i] = get(from, i);
        }
    }

    private static void fillRow(int[] row, int value) {
        for (int i = 0; row != null && i < row.length; i++) {
            row[i] = value;
        }
    }

    private static boolean hasBit(int bits, int place) {
        return place >= 0 && place < 31 && (bits >> place & 1) == 1;
    }

    private static long power(long base, int exponent) {
        long product = 1;
        for (int i = 0; i < exponent; i++) {
            product *= base;
        }
        return product;
    }

    private static long inLowestTerms(long above, long below, int part) {
        if (above == 0 || below == 0) {
            return part;
        }
        long a = above;
        long b = below;
        // Euclid's remainders halve every second time, so that 200 are more than any two longs need.
        for (int i = 0; i < 200 && b != 0; i++) {
            long rest = a % b;
            a = b;
            b = rest;
        }
        if (a == 0) {
            return part;
        }
        return part == 0 ? above / a : below / a;
    }

    /** Numbers that come one by one, up to a limit. */
    private static final class Numbers {
        final int[] items;
        int size = 0;

        Numbers(int limit) {
            items = new int[Math.max(limit, 0)];
        }

        boolean isFull() {
            return size >= items.length;
        }

        int append(int number) {
            if (!isFull()) {
                put(items, size, number);
                size++;
            }
            return size;
        }

        /** The number at a place, -1 where there is none. */
        int at(int place) {
            return place >= 0 && place < size ? get(items, place) : -1;
        }

        void empty() {
            size = 0;
        }
    }

    /** A hill told in letters. */
    private static final class Letters {
        final Numbers text = new Numbers(MOST_LETTERS);

        /** 0 if the letters are statements one behind the other, else the answer of the first kind of fault. */
        int faultOfForm() {
            int place = 0;
            for (int i = 0; i < MOST_LETTERS && place < text.size; i++) {
                int wrong = wrongInStatement(place);
                if (wrong != NOWHERE) {
                    return -1000 - wrong;
                }
                place += lengthOfStatement(place);
            }
            return text.size == 0 ? -1000 : 0;
        }

        /** The place where the statement that begins here goes wrong or lacks something. */
        private int wrongInStatement(int first) {
            int length = lengthOfStatement(first);
            if (length == 0) {
                return first;
            }
            for (int place = first + 1; place < first + length; place++) {
                boolean last = place == first + length - 1;
                boolean fits = last ? text.at(place) == ';' : isDigit(text.at(place));
                if (!fits) {
                    return place;
                }
            }
            return NOWHERE;
        }

        /** How many letters the statement that begins here must have; 0 where none can begin. */
        private int lengthOfStatement(int first) {
            switch (text.at(first)) {
                case 's':
                case 'r':
                case 'c':
                case 'v':
                case 'g':
                    return 4;
                case 'b':
                    return 2;
                default:
                    return 0;
            }
        }

        private static boolean isDigit(int letter) {
            return letter >= '0' && letter <= '9';
        }

        /** Lets all statements come to a hill: how many, or the answer of the second kind of fault. */
        int comeTo(Hill hill) {
            int statements = 0;
            int place = 0;
            for (int i = 0; i < MOST_LETTERS && place < text.size; i++) {
                if (!statementComes(hill, place)) {
                    return -2000 - place;
                }
                place += lengthOfStatement(place);
                statements++;
            }
            return statements;
        }

        private boolean statementComes(Hill hill, int first) {
            int a = text.at(first + 1) - '0';
            int b = text.at(first + 2) - '0';
            switch (text.at(first)) {
                case 's': return stretchComes(hill, a, b);
                case 'r': return riderComes(hill, a, b);
                case 'c': return changeComes(hill, a, b);
                case 'v':
                    hill.start = 10 * a + b;
                    return true;
                case 'b':
                    hill.begin();
                    return true;
                case 'g': return stepsCome(hill, 10 * a + b);
                default: return false;
            }
        }

        private static boolean stretchComes(Hill hill, int kind, int figure) {
            boolean fits = kind < KINDS && hill.stretches < MOST_STRETCHES;
            if (fits) {
                hill.addStretch(kind, figure);
            }
            return fits;
        }

        private static boolean riderComes(Hill hill, int weight, int skill) {
            boolean fits = weight >= 1 && hill.riders < MOST_RIDERS;
            if (fits) {
                hill.addRider(weight, skill);
            }
            return fits;
        }

        private static boolean changeComes(Hill hill, int stretch, int rider) {
            boolean fits = hill.hasStretch(stretch) && (rider == 9 || hill.hasRider(rider));
            if (fits) {
                put(hill.changes, stretch, rider == 9 ? NONE : rider);
            }
            return fits;
        }

        private static boolean stepsCome(Hill hill, int n) {
            boolean fits = n >= 1 && hill.hasRoomForSteps(n);
            if (fits) {
                hill.go(n);
            }
            return fits;
        }
    }

    /** All that there is of part I: stretches, riders, start, the bicycle and the steps gone. */
    private static final class Hill {
        final int[] kinds = new int[MOST_STRETCHES];
        final int[] figures = new int[MOST_STRETCHES];
        final int[] changes = new int[MOST_STRETCHES];
        final int[] weights = new int[MOST_RIDERS];
        final int[] skills = new int[MOST_RIDERS];
        int stretches = 0;
        int riders = 0;
        int start = 9;
        int at = 0;
        int speed = 0;
        int rider = NONE;
        int how = STANDS;
        int stepsGone = 0;

        Hill() {
            begin();
        }

        void becomeLike(Hill other) {
            copyRow(other.kinds, kinds);
            copyRow(other.figures, figures);
            copyRow(other.changes, changes);
            copyRow(other.weights, weights);
            copyRow(other.skills, skills);
            stretches = other.stretches;
            riders = other.riders;
            start = other.start;
            at = other.at;
            speed = other.speed;
            rider = other.rider;
            how = other.how;
            stepsGone = other.stepsGone;
        }

        boolean hasStretch(int stretch) {
            return stretch >= 0 && stretch < stretches;
        }

        boolean hasRider(int number) {
            return number >= 0 && number < riders;
        }

        boolean hasRoomForSteps(int n) {
            return n <= MOST_STEPS_AT_ONCE && stepsGone + n <= MOST_STEPS;
        }

        int addStretch(int kind, int figure) {
            put(kinds, stretches, kind);
            put(figures, stretches, figure);
            put(changes, stretches, NONE);
            stretches++;
            return stretches - 1;
        }

        int addRider(int weight, int skill) {
            put(weights, riders, weight);
            put(skills, riders, skill);
            riders++;
            return riders - 1;
        }

        /** Kinds and figures change places; who waits stays where he is. */
        void changePlaces(int i, int j) {
            int kind = get(kinds, i);
            int figure = get(figures, i);
            put(kinds, i, get(kinds, j));
            put(figures, i, get(figures, j));
            put(kinds, j, kind);
            put(figures, j, figure);
        }

        void leaveOut(int stretch) {
            if (!hasStretch(stretch)) {
                return;
            }
            for (int s = stretch; s < stretches - 1; s++) {
                put(kinds, s, get(kinds, s + 1));
                put(figures, s, get(figures, s + 1));
                put(changes, s, get(changes, s + 1));
            }
            stretches--;
        }

        int ofBicycle(int what) {
            switch (what) {
                case 0: return at;
                case 1: return speed;
                case 2: return rider;
                default: return how;
            }
        }

        void begin() {
            at = 0;
            speed = start;
            rider = riders == 0 ? NONE : 0;
            if (riders == 0) {
                how = STANDS;
            } else {
                how = stretches == 0 ? ARRIVED : GOES;
            }
        }

        void go(int n) {
            for (int i = 0; i < n && how == GOES; i++) {
                step(0, 0);
            }
        }

        /** A step, with how much faster he may get up who runs, and how much the wind takes behind the stretch. */
        void step(int run, int wind) {
            if (how != GOES) {
                return;
            }
            stepsGone++;
            int waiter = waiter();
            if (getsUp(waiter, run)) {
                rider = waiter;
            }
            if (speed > mostHeld(at, rider)) {
                how = FALLEN;
                return;
            }
            speed = speedBehind(at, rider, speed) - wind;
            if (speed <= 0) {
                speed = 0;
                how = STANDS;
                return;
            }
            at++;
            if (at >= stretches) {
                how = ARRIVED;
            }
        }

        int waiter() {
            return hasStretch(at) ? get(changes, at) : NONE;
        }

        boolean getsUp(int waiter, int run) {
            return hasRider(waiter) && speed <= 20 + 2 * get(skills, waiter) + run;
        }

        boolean isStraight(int stretch) {
            int kind = get(kinds, stretch);
            return hasStretch(stretch) && (kind == STRAIGHT || kind == LEVEL);
        }

        int mostHeld(int stretch, int number) {
            switch (get(kinds, stretch)) {
                case BEND: return 10 + 4 * get(skills, number);
                case SMITHY: return 5 + 4 * get(skills, number);
                default: return MOST_SPEED;
            }
        }

        /** What a speed becomes on a stretch; it may be below 0. */
        int speedBehind(int stretch, int number, int v) {
            int weight = get(weights, number);
            int figure = get(figures, stretch);
            switch (get(kinds, stretch)) {
                case BEND: return Math.min(v - figure, MOST_SPEED);
                case DIP: return Math.min(v + 2 * weight, MOST_SPEED);
                case SMITHY: return Math.min((v - figure) / 2, MOST_SPEED);
                case STRAIGHT: return Math.min(v + weight - figure + 2, MOST_SPEED);
                case LEVEL: return Math.min(v - figure - 5, MOST_SPEED);
                default: return Math.min(v + weight - figure, MOST_SPEED);
            }
        }

        int changesAsBits() {
            int bits = 0;
            for (int s = 0; s < stretches; s++) {
                if (get(changes, s) != NONE) {
                    bits |= 1 << s;
                }
            }
            return bits;
        }

        int waitingAsBits() {
            int bits = 0;
            for (int s = 0; s < stretches; s++) {
                int waiter = get(changes, s);
                if (hasRider(waiter)) {
                    bits |= 1 << waiter;
                }
            }
            return bits;
        }

        /** How many straights lie one behind the other from a stretch on. */
        private int straightsFrom(int stretch) {
            int many = 0;
            for (int s = stretch; s < stretches && isStraight(s); s++) {
                many++;
            }
            return many;
        }

        int mostStraights() {
            int most = 0;
            for (int s = 0; s < stretches; s++) {
                most = Math.max(most, straightsFrom(s));
            }
            return most;
        }

        int firstOfMostStraights() {
            int most = mostStraights();
            for (int s = 0; s < stretches && most > 0; s++) {
                if (straightsFrom(s) == most) {
                    return s;
                }
            }
            return NONE;
        }

        int lightestRider() {
            int best = NONE;
            for (int r = 0; r < riders; r++) {
                if (best == NONE || get(weights, r) < get(weights, best)) {
                    best = r;
                }
            }
            return best;
        }

        int mostSkilledRider() {
            int best = NONE;
            for (int r = 0; r < riders; r++) {
                if (best == NONE || get(skills, r) > get(skills, best)) {
                    best = r;
                }
            }
            return best;
        }
    }

    /** What is seen on one ride down a hill. */
    private static final class Trip {
        /** Speeds as stretches begin; 0 where the ride does not come. */
        final int[] speeds = new int[MOST_STRETCHES];
        final int[] gains = new int[MOST_STRETCHES];
        /** Who gets over the stretches. */
        final int[] overs = new int[MOST_STRETCHES];
        int came = 0;
        int rode = 0;
        int failed = 0;
        int wed = 0;
        int late = NONE;

        Trip() {
            forget();
        }

        private void forget() {
            fillRow(speeds, 0);
            fillRow(gains, 0);
            fillRow(overs, NONE);
            came = 0;
            rode = 0;
            failed = 0;
            wed = 0;
            late = NONE;
        }

        int endOf(Hill hill) {
            run(hill, 0, NOWHERE, NOWHERE, 0);
            return hill.at;
        }

        boolean arrives(Hill hill) {
            run(hill, 0, NOWHERE, NOWHERE, 0);
            return hill.how == ARRIVED;
        }

        /** A ride with a first rider, a stretch where he brakes, one where the waiter runs, and winds as bits. */
        void run(Hill hill, int first, int brakeAt, int runAt, int winds) {
            forget();
            hill.begin();
            if (hill.hasRider(first)) {
                hill.rider = first;
            }
            for (int i = 0; i < MOST_STRETCHES && hill.how == GOES; i++) {
                int stretch = hill.at;
                noteBeginning(hill);
                if (stretch == brakeAt) {
                    hill.speed = hill.speed / 2;
                }
                int ahead = hill.speed;
                int run = stretch == runAt ? RUN : 0;
                noteChange(hill, run);
                hill.step(run, hasBit(winds, stretch) ? WIND : 0);
                noteRider(hill);
                if (hill.at > stretch) {
                    put(overs, stretch, hill.rider);
                    put(gains, stretch, hill.speed - ahead);
                }
            }
        }

        /** A stretch begins in a ride only if a step is made from there: none does without riders. */
        private void noteBeginning(Hill hill) {
            put(speeds, hill.at, hill.speed);
            came = hill.at + 1;
        }

        /** He rode who was on the bicycle in a step, behind the change: who hands over at once did not. */
        private void noteRider(Hill hill) {
            if (hill.hasRider(hill.rider)) {
                rode |= 1 << hill.rider;
            }
        }

        private void noteChange(Hill hill, int run) {
            int waiter = hill.waiter();
            if (!hill.hasRider(waiter)) {
                return;
            }
            if (!hill.getsUp(waiter, run)) {
                failed++;
                return;
            }
            late = hill.at;
            if (hill.isStraight(hill.at) && waiter != hill.rider) {
                wed++;
            }
        }

        /** Whether its speeds are those that a row tells of the first stretches. */
        boolean startsLike(Numbers row) {
            for (int i = 0; i < row.size; i++) {
                if (get(speeds, i) != row.at(i)) {
                    return false;
                }
            }
            return true;
        }

        int overBy(int stretch) {
            return stretch >= 0 && stretch < MOST_STRETCHES ? get(overs, stretch) : NONE;
        }

        int shareOf(int rider) {
            int share = 0;
            for (int s = 0; s < MOST_STRETCHES; s++) {
                if (get(overs, s) == rider) {
                    share++;
                }
            }
            return share;
        }

        int fastestStretch() {
            int best = NONE;
            for (int s = 0; s < came; s++) {
                if (best == NONE || get(speeds, s) > get(speeds, best)) {
                    best = s;
                }
            }
            return best;
        }
    }

    /** What can be taken back: of the latest changes, all that they may have changed, as it was ahead of each. */
    private static final class Past {
        private static final int WIDTH = MOST_STRETCHES + 6;
        final int[] rows = new int[MOST_BACK * WIDTH];
        int first = 0;
        int size = 0;

        Past() {
        }

        void forget() {
            size = 0;
        }

        void keep(Hill hill) {
            if (size == MOST_BACK) {
                first = (first + 1) % MOST_BACK;
                size--;
            }
            int place = (first + size) % MOST_BACK * WIDTH;
            size++;
            for (int s = 0; s < MOST_STRETCHES; s++) {
                put(rows, place + s, get(hill.changes, s));
            }
            place += MOST_STRETCHES;
            put(rows, place, hill.start);
            put(rows, place + 1, hill.at);
            put(rows, place + 2, hill.speed);
            put(rows, place + 3, hill.rider);
            put(rows, place + 4, hill.how);
            put(rows, place + 5, hill.stepsGone);
        }

        void takeBack(Hill hill) {
            if (size == 0) {
                return;
            }
            size--;
            int place = (first + size) % MOST_BACK * WIDTH;
            for (int s = 0; s < MOST_STRETCHES; s++) {
                put(hill.changes, s, get(rows, place + s));
            }
            place += MOST_STRETCHES;
            hill.start = get(rows, place);
            hill.at = get(rows, place + 1);
            hill.speed = get(rows, place + 2);
            hill.rider = get(rows, place + 3);
            hill.how = get(rows, place + 4);
            hill.stepsGone = get(rows, place + 5);
        }
    }
}
