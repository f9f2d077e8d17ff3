import java.util.ArrayList;
import java.util.Arrays;
import java.util.List;
import java.util.Random;

/**
 * Random histories of one object: what changes the hill, the letters, the row, what is taken back and restored,
 * with refusals among it, against a model that keeps a whole copy of the hill ahead of each change.
 */
public final class HistoriesTest {
    private static final Random RANDOM = new Random(20261119);
    private static final int OBJECTS = 1500;
    private static final int MOST_CALLS = 512;
    /** More calls than the last thing that a history does and the counts at its end take. */
    private static final int ROOM_AT_END = 50;
    private static final int NOBODY = -1;
    private static final int OTHER = -2;
    private static final int STATE = -3;
    private static final int BELOW = -4;
    private static final int ROOM = -6;
    private static final int[] STRANGE = {Integer.MIN_VALUE, -9, -2, -1, 10, 12, 61, 100, 256, Integer.MAX_VALUE};

    private HistoriesTest() {
    }

    public static void main(String[] args) {
        for (int i = 0; i < OBJECTS; i++) {
            new History().run();
        }
        Check.end();
    }

    /** All of part I. */
    private static final class State {
        final List<int[]> stretches = new ArrayList<>();
        final List<int[]> riders = new ArrayList<>();
        int start = 9;
        int steps = 0;
        int at;
        int speed;
        int rider;
        int how;

        State() {
            begin();
        }

        State copy() {
            State other = new State();
            stretches.forEach(s -> other.stretches.add(s.clone()));
            riders.forEach(r -> other.riders.add(r.clone()));
            other.start = start;
            other.steps = steps;
            other.at = at;
            other.speed = speed;
            other.rider = rider;
            other.how = how;
            return other;
        }

        void begin() {
            at = 0;
            speed = start;
            rider = riders.isEmpty() ? -9 : 0;
            how = riders.isEmpty() ? 1 : stretches.isEmpty() ? 3 : 0;
        }

        int holds(int stretch, int who) {
            int skill = riders.get(who)[1];
            int kind = stretches.get(stretch)[0];
            return kind == 1 ? 10 + 4 * skill : kind == 3 ? 5 + 4 * skill : 99;
        }

        int goesOn(int stretch, int who, int v) {
            int weight = riders.get(who)[0];
            int figure = stretches.get(stretch)[1];
            int bend = v - figure;
            int[] by = {bend + weight, bend, v + 2 * weight, bend / 2, bend + weight + 2, bend - 5};
            return Math.max(0, Math.min(99, by[stretches.get(stretch)[0]]));
        }

        void step() {
            if (how != 0) {
                return;
            }
            steps++;
            int waits = stretches.get(at)[2];
            if (waits >= 0 && speed <= 20 + 2 * riders.get(waits)[1]) {
                rider = waits;
            }
            if (speed > holds(at, rider)) {
                how = 2;
                return;
            }
            speed = goesOn(at, rider, speed);
            if (speed == 0) {
                how = 1;
            } else if (++at == stretches.size()) {
                how = 3;
            }
        }

        int[] bicycle() {
            return new int[] {at, speed, rider, how};
        }
    }

    /** One object and its model. */
    private static final class History {
        final FreeWheelDown x = new FreeWheelDown();
        State now = new State();
        State image = null;
        final List<State> past = new ArrayList<>();
        final StringBuilder letters = new StringBuilder();
        int told = 0;
        final int[] refusals = new int[7];
        int calls = 0;

        void run() {
            int most = RANDOM.nextInt(MOST_CALLS - ROOM_AT_END);
            if (RANDOM.nextInt(4) == 0) {
                rideOften(RANDOM.nextInt(120));
            }
            while (calls < most) {
                one(RANDOM.nextInt(16));
            }
            for (int what = 0; what <= 17; what++) {
                due("count(" + what + ")", x.count(what), count(what));
            }
        }

        /** A hill that is ridden to its end, so that STEPS come near the most there may be. */
        private void rideOften(int rides) {
            addRider(9, 9);
            for (int i = 0; i < 10; i++) {
                addStretch(2, i);
            }
            for (int i = 0; i < rides; i++) {
                begins();
                steps(10 + RANDOM.nextInt(51));
            }
        }

        private void due(String call, int got, int want) {
            calls++;
            Check.due("call " + calls + " of a history, " + call, got, want);
        }

        private int refused(int number) {
            refusals[-number]++;
            return number;
        }

        private static int number(int below) {
            return RANDOM.nextInt(20) == 0 ? STRANGE[RANDOM.nextInt(STRANGE.length)] : RANDOM.nextInt(Math.max(below, 1));
        }

        private void one(int which) {
            switch (which) {
                case 0 -> addStretch(number(6), number(10));
                case 1 -> addRider(number(10), number(10));
                case 2, 3 -> waits(number(now.stretches.size()), number(now.riders.size() + 1) - 1);
                case 4 -> starts(number(100));
                case 5, 6 -> begins();
                case 7, 8 -> steps(RANDOM.nextBoolean() ? number(61) : 1 + RANDOM.nextInt(3));
                case 9, 10 -> back();
                case 11 -> text();
                case 12 -> imageOrRestore();
                case 13 -> row();
                case 14 -> look(number(now.stretches.size()), number(now.riders.size()));
                default -> behind(number(61), number(4));
            }
        }

        private boolean isStretch(int number) {
            return number >= 0 && number < now.stretches.size();
        }

        private boolean isRider(int number) {
            return number >= 0 && number < now.riders.size();
        }

        private void keep() {
            past.add(now.copy());
            if (past.size() > 8) {
                past.remove(0);
            }
        }

        private void addStretch(int kind, int figure) {
            int want = now.stretches.size();
            if (kind < 0 || kind > 5) {
                want = refused(OTHER);
            } else if (figure < 0) {
                want = refused(BELOW);
            } else if (figure > 9 || want == 10) {
                want = refused(ROOM);
            } else {
                now.stretches.add(new int[] {kind, figure, -9});
                past.clear();
            }
            due("stretch(" + kind + ", " + figure + ")", x.stretch(kind, figure), want);
        }

        private void addRider(int weight, int skill) {
            int want = now.riders.size();
            if (weight < 1 || skill < 0) {
                want = refused(BELOW);
            } else if (weight > 9 || skill > 9 || want == 5) {
                want = refused(ROOM);
            } else {
                now.riders.add(new int[] {weight, skill});
                past.clear();
            }
            due("rider(" + weight + ", " + skill + ")", x.rider(weight, skill), want);
        }

        private void waits(int stretch, int rider) {
            int want;
            if (!isStretch(stretch) || rider != -1 && !isRider(rider)) {
                want = refused(NOBODY);
            } else {
                keep();
                want = now.stretches.get(stretch)[2];
                now.stretches.get(stretch)[2] = rider == -1 ? -9 : rider;
            }
            due("waits(" + stretch + ", " + rider + ")", x.waits(stretch, rider), want);
        }

        private void starts(int v) {
            int want = now.start;
            if (v < 0) {
                want = refused(BELOW);
            } else if (v > 99) {
                want = refused(ROOM);
            } else {
                keep();
                now.start = v;
            }
            due("starts(" + v + ")", x.starts(v), want);
        }

        private void begins() {
            keep();
            now.begin();
            due("begins()", x.begins(), now.how);
        }

        private void steps(int n) {
            int want;
            if (n < 1) {
                want = refused(BELOW);
            } else if (n > 60 || now.steps + n > 999) {
                want = refused(ROOM);
            } else {
                keep();
                for (int i = 0; i < n; i++) {
                    now.step();
                }
                want = now.how;
            }
            due("steps(" + n + ")", x.steps(n), want);
        }

        private void back() {
            int want = past.isEmpty() ? refused(STATE) : past.size() - 1;
            if (want >= 0) {
                now = past.remove(want);
            }
            due("back()", x.back(), want);
            look(number(now.stretches.size()), number(now.riders.size()));
        }

        private void imageOrRestore() {
            if (RANDOM.nextInt(3) == 0) {
                image = now.copy();
                due("image()", x.image(), now.steps);
                return;
            }
            if (image != null) {
                now = image.copy();
                past.clear();
            }
            due("restore()", x.restore(), image == null ? refused(STATE) : now.steps);
        }

        private void row() {
            if (RANDOM.nextInt(12) == 0) {
                due("clear()", x.clear(), told);
                told = 0;
                return;
            }
            int v = number(100);
            int want = v < 0 ? refused(BELOW) : v > 99 || told == 12 ? refused(ROOM) : ++told;
            due("row(" + v + ")", x.row(v), want);
        }

        private void behind(int k, int what) {
            int want;
            if (k < 0) {
                want = refused(BELOW);
            } else if (k > 60) {
                want = refused(ROOM);
            } else if (what < 0 || what > 3) {
                want = refused(OTHER);
            } else {
                State mind = now.copy();
                for (int i = 0; i < k; i++) {
                    mind.step();
                }
                want = mind.bicycle()[what];
            }
            due("behind(" + k + ", " + what + ")", x.behind(k, what), want);
        }

        /** What a look at a stretch, a rider and the bicycle tells. */
        private void look(int stretch, int rider) {
            int what = RANDOM.nextInt(4);
            due("bicycle(" + what + ")", x.bicycle(what), now.bicycle()[what]);
            int of = RANDOM.nextInt(3);
            boolean both = isStretch(stretch) && isRider(rider);
            int want = isStretch(stretch) ? now.stretches.get(stretch)[of] : refused(NOBODY);
            due("stretchOf(" + stretch + ", " + of + ")", x.stretchOf(stretch, of), want);
            want = !isRider(rider) ? refused(NOBODY) : of == 2 ? refused(OTHER) : now.riders.get(rider)[of];
            due("riderOf(" + rider + ", " + of + ")", x.riderOf(rider, of), want);
            want = both ? now.holds(stretch, rider) : refused(NOBODY);
            due("holds(" + stretch + ", " + rider + ")", x.holds(stretch, rider), want);
            int v = RANDOM.nextInt(100);
            want = both ? now.goesOn(stretch, rider, v) : refused(NOBODY);
            due("goesOn(" + stretch + ", " + rider + ", " + v + ")", x.goesOn(stretch, rider, v), want);
        }

        private int count(int what) {
            if (what >= 11 && what <= 16) {
                return refusals[what - 10];
            }
            int changes = (int) now.stretches.stream().filter(s -> s[2] >= 0).count();
            int[] counts = {now.stretches.size(), now.riders.size(), now.start, now.steps, changes, letters.length(),
                told, past.size()};
            return what < counts.length ? counts[what] : -9;
        }

        // ---- letters ----

        private void text() {
            StringBuilder text = new StringBuilder();
            int room = MOST_CALLS - ROOM_AT_END - calls;
            for (int many = RANDOM.nextInt(RANDOM.nextInt(8) == 0 ? 30 : 7); many > 0 && text.length() < room; many--) {
                text.append(statement());
            }
            if (text.length() > 0 && RANDOM.nextInt(3) == 0) {
                text.setCharAt(RANDOM.nextInt(text.length()), "srcvbg;0x59".charAt(RANDOM.nextInt(11)));
            }
            if (text.length() > 0 && RANDOM.nextInt(6) == 0) {
                text.deleteCharAt(RANDOM.nextInt(text.length()));
            }
            for (int i = 0; i < text.length(); i++) {
                feed(text.charAt(i));
            }
            if (RANDOM.nextInt(4) != 0) {
                hill();
            }
        }

        private String statement() {
            int a = RANDOM.nextInt(10);
            int b = RANDOM.nextInt(10);
            switch (RANDOM.nextInt(7)) {
                case 0: return "s" + a % 7 + b + ";";
                case 1: return "r" + a + b + ";";
                case 2: return "c" + a % (now.stretches.size() + 1) + (a < 3 ? 9 : b % (now.riders.size() + 1)) + ";";
                case 3: return "v" + a + b + ";";
                case 4: return "b;";
                default: return "g" + a % 7 + (a % 7 == 6 ? b % 2 : b) + ";";
            }
        }

        private void feed(int letter) {
            boolean fits = letters.length() < 96;
            if (fits) {
                letters.append((char) letter);
            }
            due("feed(" + letter + ")", x.feed(letter), fits ? letters.length() : refused(ROOM));
        }

        private void hill() {
            String text = letters.toString();
            letters.setLength(0);
            int want = form(text);
            if (want == 0) {
                State mind = now.copy();
                want = come(text, mind);
                if (want > 0) {
                    now = mind;
                    past.clear();
                }
            }
            due("hill() of " + text, x.hill(), want);
        }

        /** The longest beginning that a hill can go on with ends at the first fault of the form. */
        private static int form(String text) {
            if (text.matches("([srcvg][0-9]{2};|b;)+")) {
                return 0;
            }
            int length = text.length();
            while (!text.substring(0, length).matches("([srcvg][0-9]{2};|b;)*([srcvg][0-9]{0,2}|b)?")) {
                length--;
            }
            return -1000 - length;
        }

        private static int come(String text, State mind) {
            int place = 0;
            String[] statements = text.split(";");
            for (String statement : statements) {
                int[] digits = statement.substring(1).chars().map(c -> c - '0').toArray();
                if (!comes(statement.charAt(0), Arrays.copyOf(digits, 2), mind)) {
                    return -2000 - place;
                }
                place += statement.length() + 1;
            }
            return statements.length;
        }

        private static boolean comes(char letter, int[] d, State mind) {
            int both = 10 * d[0] + d[1];
            switch (letter) {
                case 's': return d[0] <= 5 && mind.stretches.size() < 10 && mind.stretches.add(new int[] {d[0], d[1], -9});
                case 'r': return d[0] >= 1 && mind.riders.size() < 5 && mind.riders.add(d);
                case 'c':
                    if (d[0] >= mind.stretches.size() || d[1] != 9 && d[1] >= mind.riders.size()) {
                        return false;
                    }
                    mind.stretches.get(d[0])[2] = d[1] == 9 ? -9 : d[1];
                    return true;
                case 'v':
                    mind.start = both;
                    return true;
                case 'b':
                    mind.begin();
                    return true;
                default:
                    if (both < 1 || both > 60 || mind.steps + both > 999) {
                        return false;
                    }
                    for (int i = 0; i < both; i++) {
                        mind.step();
                    }
                    return true;
            }
        }
    }
}
