import java.util.function.IntSupplier;
import java.util.function.LongSupplier;

/** The refusals of all promises: their numbers, the first that fits, and that they change nothing but their count. */
public final class RefusalTest {
    private static final long LONG = 4000000000000000000L;
    private static final int LEAST = Integer.MIN_VALUE;
    private static final int MOST = Integer.MAX_VALUE;
    /** Three stretches, two riders, a row of 4 numbers. */
    private static final FreeWheelDown X = object();
    private static final int[] COUNTED = new int[17];

    private RefusalTest() {
    }

    public static void main(String[] args) {
        whatThereIs();
        whatChanges();
        whatIsSeen();
        whatWouldBe();
        theRow();
        longs();
        states();
        full();
        Check.end();
    }

    private static FreeWheelDown object() {
        FreeWheelDown x = Check.hill("s00;s10;s40;r35;r73;c11;v15;b;g01;");
        Check.row(x, 1, 2, 3, 4);
        x.starts(14);
        x.starts(15);
        return x;
    }

    private static void refused(String call, IntSupplier answer, int due) {
        refusedLong(call, answer::getAsInt, due, due);
    }

    private static void refusedLong(String call, LongSupplier answer, long due, int number) {
        String before = all();
        Check.due(call, answer.getAsLong(), due);
        COUNTED[10 - number]++;
        for (int what = 11; what <= 16; what++) {
            Check.due("count(" + what + ") behind " + call, X.count(what), COUNTED[what]);
        }
        Check.holds("nothing else changed by " + call, before.equals(all()));
    }

    private static String all() {
        StringBuilder told = new StringBuilder();
        for (int what = 0; what <= 7; what++) {
            told.append(X.count(what)).append(' ');
        }
        for (int what = 0; what < 4; what++) {
            told.append(X.bicycle(what)).append(' ');
        }
        for (int s = 0; s < X.count(0); s++) {
            told.append(X.stretchOf(s, 0)).append(X.stretchOf(s, 1)).append(X.stretchOf(s, 2)).append(' ');
        }
        for (int r = 0; r < X.count(1); r++) {
            told.append(X.riderOf(r, 0)).append(X.riderOf(r, 1)).append(' ');
        }
        return told.toString();
    }

    private static void whatThereIs() {
        for (int s : new int[] {-1, 3, 10, LEAST, MOST}) {
            refused("stretchOf stretch " + s, () -> X.stretchOf(s, 9), -1);
            refused("goesOn stretch " + s, () -> X.goesOn(s, 0, -1), -1);
            refused("holds stretch " + s, () -> X.holds(s, 0), -1);
            refused("who " + s, () -> X.who(s), -1);
            refused("waits stretch " + s, () -> X.waits(s, 0), -1);
            refused("whatKind stretch " + s, () -> X.whatKind(s, 9), -1);
            refused("two stretch " + s, () -> X.two(s, 0), -1);
        }
        for (int r : new int[] {-1, 2, 5, 9, LEAST, MOST}) {
            refused("riderOf rider " + r, () -> X.riderOf(r, 9), -1);
            refused("goesOn rider " + r, () -> X.goesOn(0, r, -1), -1);
            refused("holds rider " + r, () -> X.holds(0, r), -1);
            refused("skillWanted " + r, () -> X.skillWanted(r), -1);
            refused("two rider " + r, () -> X.two(0, r), -1);
            if (r != -1) {
                refused("waits rider " + r, () -> X.waits(0, r), -1);
                refused("shares " + r, () -> X.shares(r), -1);
            }
        }
        refused("stretchOf what 3", () -> X.stretchOf(0, 3), -2);
        refused("stretchOf what -1", () -> X.stretchOf(0, -1), -2);
        refused("riderOf what 2", () -> X.riderOf(0, 2), -2);
        refused("riderOf what -1", () -> X.riderOf(0, -1), -2);
        refused("bicycle what 4", () -> X.bicycle(4), -2);
        refused("bicycle what -1", () -> X.bicycle(-1), -2);
        refused("goesOn v -1", () -> X.goesOn(0, 0, -1), -4);
        refused("goesOn v 100", () -> X.goesOn(0, 0, 100), -6);
    }

    private static void whatChanges() {
        refused("feed(-1)", () -> X.feed(-1), -4);
        refused("feed(256)", () -> X.feed(256), -6);
        refused("stretch kind 6", () -> X.stretch(6, -1), -2);
        refused("stretch kind -1", () -> X.stretch(-1, 10), -2);
        refused("stretch figure -1", () -> X.stretch(0, -1), -4);
        refused("stretch figure 10", () -> X.stretch(0, 10), -6);
        refused("rider weight 0", () -> X.rider(0, 10), -4);
        refused("rider skill -1", () -> X.rider(10, -1), -4);
        refused("rider weight 10", () -> X.rider(10, 0), -6);
        refused("rider skill 10", () -> X.rider(1, 10), -6);
        refused("starts(-1)", () -> X.starts(-1), -4);
        refused("starts(100)", () -> X.starts(100), -6);
        refused("steps(0)", () -> X.steps(0), -4);
        refused("steps(least)", () -> X.steps(LEAST), -4);
        refused("steps(61)", () -> X.steps(61), -6);
        refused("steps(most)", () -> X.steps(MOST), -6);
    }

    private static void whatIsSeen() {
        refused("behind k -1", () -> X.behind(-1, 9), -4);
        refused("behind k 61", () -> X.behind(61, 9), -6);
        refused("behind what 4", () -> X.behind(0, 4), -2);
        refused("behind what -1", () -> X.behind(60, -1), -2);
        refused("ride(5)", () -> X.ride(5), -2);
        refused("ride(-1)", () -> X.ride(-1), -2);
        refused("fastest(2)", () -> X.fastest(2), -2);
        refused("fastest(-1)", () -> X.fastest(-1), -2);
        refused("above(-1)", () -> X.above(-1), -4);
        refused("above(100)", () -> X.above(100), -6);
        refused("straights(3)", () -> X.straights(3), -2);
        refused("straights(-1)", () -> X.straights(-1), -2);
        refused("lightest(2)", () -> X.lightest(2), -2);
        refused("lightest(-1)", () -> X.lightest(-1), -2);
        refused("waiting(3)", () -> X.waiting(3), -2);
        refused("waiting(-1)", () -> X.waiting(-1), -2);
        refusedLong("gain(3)", () -> X.gain(3), 1000000001, -1);
        refusedLong("gain(-1)", () -> X.gain(-1), 1000000001, -1);
    }

    private static void whatWouldBe() {
        refused("bestStart(3)", () -> X.bestStart(3), -2);
        refused("bestStart(-1)", () -> X.bestStart(-1), -2);
        refused("bestChanges(3, 1, 2)", () -> X.bestChanges(3, 1, 2, 9), -1);
        refused("bestChanges(0, -1, 2)", () -> X.bestChanges(0, -1, 2, 0), -1);
        refused("bestChanges(0, 1, 3)", () -> X.bestChanges(0, 1, 3, 0), -1);
        refused("bestChanges(0, 0, 1)", () -> X.bestChanges(0, 0, 1, 0), -1);
        refused("bestChanges(0, 1, 0)", () -> X.bestChanges(0, 1, 0, 0), -1);
        refused("bestChanges(1, 0, 0)", () -> X.bestChanges(1, 0, 0, 0), -1);
        refused("bestChanges what 2", () -> X.bestChanges(0, 1, 2, 2), -2);
        refused("bestChanges what -1", () -> X.bestChanges(0, 1, 2, -1), -2);
        refused("fewest(2)", () -> X.fewest(2), -2);
        refused("fewest(-1)", () -> X.fewest(-1), -2);
        refused("lots n 0", () -> X.lots(0, 1, 9), -4);
        refused("lots n 21", () -> X.lots(21, 1, 9), -6);
        refused("lots what 2", () -> X.lots(20, 1, 2), -2);
        refused("lots what -1", () -> X.lots(1, 1, -1), -2);
    }

    private static void theRow() {
        refused("row(-1)", () -> X.row(-1), -4);
        refused("row(100)", () -> X.row(100), -6);
        refused("whoRode what 2", () -> X.whoRode(2), -2);
        refused("whoRode what -1", () -> X.whoRode(-1), -2);
        refused("whoRode", () -> X.whoRode(0), -3);
        refused("whatKind what 2", () -> X.whatKind(0, 2), -2);
        refused("whatKind what -1", () -> X.whatKind(0, -1), -2);
        refused("whatKind", () -> X.whatKind(0, 0), -3);
        refused("startTold what 2", () -> X.startTold(2), -2);
        refused("startTold what -1", () -> X.startTold(-1), -2);
        refused("startTold", () -> X.startTold(0), -3);
    }

    private static void refusedWind(int n, int t, int part, int number) {
        refusedLong("wind(" + n + ", " + t + ", " + part + ")", () -> X.wind(n, t, part), LONG - number, number);
    }

    private static void longs() {
        refusedWind(-1, 2, 0, -4);
        refusedWind(-1, 21, 2, -4);
        refusedWind(0, 1, 0, -4);
        refusedWind(9, 1, 2, -4);
        refusedWind(0, LEAST, 0, -4);
        refusedWind(4, 2, 2, -6);
        refusedWind(9, 2, 0, -6);
        refusedWind(MOST, 2, 0, -6);
        refusedWind(3, 21, 2, -6);
        refusedWind(3, MOST, 0, -6);
        refusedWind(3, 20, 2, -2);
        refusedWind(0, 2, -1, -2);
        refusedLong("mean(2)", () -> X.mean(2), LONG + 2, -2);
        refusedLong("mean(-1)", () -> X.mean(-1), LONG + 2, -2);
    }

    private static void states() {
        refused("restore()", X::restore, -3);
        X.back();
        X.back();
        refused("back()", X::back, -3);
    }

    private static void full() {
        for (int s = 3; s < 10; s++) {
            X.stretch(0, 0);
        }
        for (int r = 2; r < 5; r++) {
            X.rider(1, 1);
        }
        while (X.count(6) < 12) {
            X.row(0);
        }
        while (X.count(5) < 96) {
            X.feed(0);
        }
        refused("an 11th stretch", () -> X.stretch(0, 0), -6);
        refused("an 11th stretch, figure -1", () -> X.stretch(0, -1), -4);
        refused("an 11th stretch, kind 6", () -> X.stretch(6, 0), -2);
        refused("a 6th rider", () -> X.rider(1, 0), -6);
        refused("a 6th rider, weight 0", () -> X.rider(0, 0), -4);
        refused("a 13th number", () -> X.row(0), -6);
        refused("a 13th number, -1", () -> X.row(-1), -4);
        refused("a 97th letter", () -> X.feed('b'), -6);
        refused("a 97th letter, -1", () -> X.feed(-1), -4);
        refused("wind over 9", () -> (int) (X.wind(9, 2, 0) - LONG) * -1, -6);
        refused("twelve of ten", () -> X.whoRode(0), -3);
        Check.due("no REFUSALS -5", X.count(15), 0);
    }
}
