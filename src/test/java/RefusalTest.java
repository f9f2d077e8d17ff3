import java.util.function.Supplier;

/**
 * The refusals that each promise tells, by its own words: the edge on either side, the first that fits where
 * several do, and that nothing changes but how many there were. Each refusal has an object of its own.
 */
public final class RefusalTest {
    private static final int LEAST = Integer.MIN_VALUE;
    private static final int MOST = Integer.MAX_VALUE;
    private static final long LONGS = 4000000000000000000L;
    private static final int GAINS = 1000000000;

    private RefusalTest() {
    }

    /** A call on an object. */
    private interface Call {
        long on(FreeWheelDown x);
    }

    public static void main(String[] args) {
        whatThereIs();
        goesOnAndHolds();
        theNumbersOfRefusals();
        theirReasons();
        gainAndLongs();
        lettersRefused();
        stretchesRefused();
        ridersRefused();
        changesRefused();
        startsRefused();
        stepsRefused();
        backAndRestoreRefused();
        behindRefused();
        ridesRefused();
        bestRefused();
        wouldBeRefused();
        rowsRefused();
        toldByRowsRefused();
        windRefused();
        sharesAndSkills();
        lotsRefused();
        Check.end();
    }

    /** Three stretches, two riders, one who waits, a bicycle on its way, a row, two changes that can be taken back. */
    private static FreeWheelDown some() {
        FreeWheelDown x = Check.hill("s00;s10;s40;r35;r73;c11;v15;b;g01;");
        x.row(15);
        x.row(18);
        x.starts(14);
        x.starts(15);
        x.feed('b');
        return x;
    }

    private static FreeWheelDown full() {
        FreeWheelDown x = Check.hill("s00;s00;s00;s00;s00;s00;s00;s00;s00;s00;r11;r11;r11;r11;r11;");
        for (int i = 0; i < 12; i++) {
            x.row(0);
        }
        for (int i = 0; i < 96; i++) {
            x.feed(0);
        }
        return x;
    }

    /** What there is, but REFUSALS. */
    private static String all(FreeWheelDown x) {
        StringBuilder told = new StringBuilder();
        for (int what = 0; what <= 7; what++) {
            told.append(x.count(what)).append(' ');
        }
        for (int what = 0; what < 4; what++) {
            told.append(x.bicycle(what)).append(' ');
        }
        for (int s = 0; s < x.count(0); s++) {
            told.append(x.stretchOf(s, 0)).append(x.stretchOf(s, 1)).append(x.stretchOf(s, 2)).append(' ');
        }
        for (int r = 0; r < x.count(1); r++) {
            told.append(x.riderOf(r, 0)).append(x.riderOf(r, 1)).append(' ');
        }
        return told.toString();
    }

    private static void refused(Supplier<FreeWheelDown> made, String call, Call asked, long due, int number) {
        FreeWheelDown x = made.get();
        String before = all(x);
        Check.due(call, asked.on(x), due);
        for (int what = 11; what <= 16; what++) {
            Check.due("count(" + what + ") behind " + call, x.count(what), what == 10 - number ? 1 : 0);
        }
        Check.holds("nothing else is changed by " + call, before.equals(all(x)));
    }

    private static void refused(String call, Call asked, int number) {
        refused(RefusalTest::some, call, asked, number, number);
    }

    private static void refusedFull(String call, Call asked, int number) {
        refused(RefusalTest::full, call, asked, number, number);
    }

    private static void taken(String call, Call asked, long due) {
        FreeWheelDown x = some();
        Check.due(call, asked.on(x), due);
        for (int what = 11; what <= 16; what++) {
            Check.due("count(" + what + ") behind " + call, x.count(what), 0);
        }
    }

    private static void whatThereIs() {
        Check.promise(4, "-1; -2.");
        for (int s : new int[] {-1, 3, 10, LEAST, MOST}) {
            refused("stretchOf(" + s + ", 0)", x -> x.stretchOf(s, 0), -1);
            refused("stretchOf(" + s + ", 3)", x -> x.stretchOf(s, 3), -1);
        }
        for (int what : new int[] {-1, 3, LEAST, MOST}) {
            refused("stretchOf(2, " + what + ")", x -> x.stretchOf(2, what), -2);
        }
        taken("stretchOf(2, 2)", x -> x.stretchOf(2, 2), -9);
        Check.promise(5, "-1; -2.");
        for (int r : new int[] {-1, 2, 5, LEAST, MOST}) {
            refused("riderOf(" + r + ", 0)", x -> x.riderOf(r, 0), -1);
            refused("riderOf(" + r + ", 2)", x -> x.riderOf(r, 2), -1);
        }
        for (int what : new int[] {-1, 2, LEAST, MOST}) {
            refused("riderOf(1, " + what + ")", x -> x.riderOf(1, what), -2);
        }
        taken("riderOf(1, 1)", x -> x.riderOf(1, 1), 3);
        Check.promise(6, "-2.");
        for (int what : new int[] {-1, 4, LEAST, MOST}) {
            refused("bicycle(" + what + ")", x -> x.bicycle(what), -2);
        }
        taken("bicycle(3)", x -> x.bicycle(3), 0);
    }

    private static void goesOnAndHolds() {
        Check.promise(7, "-1 either; -4; -6 99.");
        refused("goesOn(-1, 0, 5)", x -> x.goesOn(-1, 0, 5), -1);
        refused("goesOn(3, 0, 5)", x -> x.goesOn(3, 0, 5), -1);
        refused("goesOn(0, -1, 5)", x -> x.goesOn(0, -1, 5), -1);
        refused("goesOn(0, 2, 5)", x -> x.goesOn(0, 2, 5), -1);
        refused("goesOn(3, 0, -1)", x -> x.goesOn(3, 0, -1), -1);
        refused("goesOn(0, 2, 100)", x -> x.goesOn(0, 2, 100), -1);
        refused("goesOn(2, 1, -1)", x -> x.goesOn(2, 1, -1), -4);
        refused("goesOn(2, 1, LEAST)", x -> x.goesOn(2, 1, LEAST), -4);
        refused("goesOn(2, 1, 100)", x -> x.goesOn(2, 1, 100), -6);
        refused("goesOn(2, 1, MOST)", x -> x.goesOn(2, 1, MOST), -6);
        taken("goesOn(2, 1, 0)", x -> x.goesOn(2, 1, 0), 9);
        taken("goesOn(2, 1, 99)", x -> x.goesOn(2, 1, 99), 99);
        Check.promise(8, "-1 either.");
        refused("holds(-1, 0)", x -> x.holds(-1, 0), -1);
        refused("holds(3, 0)", x -> x.holds(3, 0), -1);
        refused("holds(0, -1)", x -> x.holds(0, -1), -1);
        refused("holds(0, 2)", x -> x.holds(0, 2), -1);
        taken("holds(2, 1)", x -> x.holds(2, 1), 99);
    }

    private static void theNumbersOfRefusals() {
        Check.terms("REFUSALS (the call answers the number, the first that fits in the order in which it tells them; "
            + "nothing changes but how many there were)");
        FreeWheelDown x = some();
        int[] numbers = {x.who(3), x.ride(5), x.restore(), x.above(-1), -5, x.above(100)};
        for (int i = 0; i < numbers.length; i++) {
            Check.due("number " + (i + 1), numbers[i], -i - 1);
            Check.due("count(" + (11 + i) + ")", x.count(11 + i), i == 4 ? 0 : 1);
        }
        for (int i = 2; i <= 20; i++) {
            x.who(-1);
            Check.due("once more", x.count(11), i);
        }
        Check.due("of another number no more", x.count(12), 1);
    }

    private static void theirReasons() {
        Check.terms("-1 NOBODY: no such STRETCH, RIDER, one twice.");
        refused("no such STRETCH", x -> x.who(3), -1);
        refused("no such RIDER", x -> x.skillWanted(2), -1);
        refused("one twice", x -> x.bestChanges(1, 2, 1, 0), -1);
        Check.terms("-2 OTHER: what, KIND.");
        refused("what", x -> x.ride(5), -2);
        refused("KIND", x -> x.stretch(6, 0), -2);
        Check.terms("-3 STATE: it is not as told.");
        refused("no IMAGE", x -> x.restore(), -3);
        refused(RefusalTest::full, "nothing to be TAKEN BACK", x -> x.back(), -3, -3);
        Check.terms("-4 BELOW: a number below the least.");
        refused("START", x -> x.starts(-1), -4);
        refused("WEIGHT", x -> x.rider(0, 0), -4);
        Check.terms("-6 ROOM: a number above the greatest, no room.");
        refused("START", x -> x.starts(100), -6);
        refusedFull("no room", x -> x.rider(1, 0), -6);
    }

    private static void gainAndLongs() {
        Check.terms("Of gain() 1000000000 less them (-1 as 1000000001), of longs 4000000000000000000 less them "
            + "(-1 as 4000000000000000001).");
        refused(RefusalTest::some, "gain(3)", x -> x.gain(3), GAINS + 1, -1);
        refused(RefusalTest::some, "mean(2)", x -> x.mean(2), LONGS + 2, -2);
        refused(RefusalTest::some, "wind(-1, 2, 0)", x -> x.wind(-1, 2, 0), LONGS + 4, -4);
        refused(RefusalTest::some, "wind(4, 2, 0)", x -> x.wind(4, 2, 0), LONGS + 6, -6);
        Check.promise(38, "Refused as told: -2.");
        for (int part : new int[] {-1, 2, LEAST, MOST}) {
            refused(RefusalTest::some, "mean(" + part + ")", x -> x.mean(part), LONGS + 2, -2);
        }
        Check.promise(40, "Refused as told: -1.");
        for (int s : new int[] {-1, 3, LEAST, MOST}) {
            refused(RefusalTest::some, "gain(" + s + ")", x -> x.gain(s), GAINS + 1, -1);
        }
        taken("gain(2)", x -> x.gain(2), 9);
    }

    private static void lettersRefused() {
        Check.promise(2, "-4; -6 (255; 96, too).");
        refused("feed(-1)", x -> x.feed(-1), -4);
        refused("feed(LEAST)", x -> x.feed(LEAST), -4);
        refused("feed(256)", x -> x.feed(256), -6);
        refused("feed(MOST)", x -> x.feed(MOST), -6);
        taken("feed(0)", x -> x.feed(0), 2);
        taken("feed(255)", x -> x.feed(255), 2);
        refusedFull("a 97th letter", x -> x.feed('b'), -6);
        refusedFull("a 97th letter, -1", x -> x.feed(-1), -4);
    }

    private static void stretchesRefused() {
        Check.promise(9, "-2; -4; -6 (9; 10 there are).");
        refused("stretch(-1, -1)", x -> x.stretch(-1, -1), -2);
        refused("stretch(6, 10)", x -> x.stretch(6, 10), -2);
        refused("stretch(0, -1)", x -> x.stretch(0, -1), -4);
        refused("stretch(5, 10)", x -> x.stretch(5, 10), -6);
        taken("stretch(0, 0)", x -> x.stretch(0, 0), 3);
        taken("stretch(5, 9)", x -> x.stretch(5, 9), 3);
        refusedFull("an 11th", x -> x.stretch(0, 0), -6);
        refusedFull("an 11th, figure -1", x -> x.stretch(0, -1), -4);
        refusedFull("an 11th, kind 6", x -> x.stretch(6, 0), -2);
    }

    private static void ridersRefused() {
        Check.promise(10, "-4 (1; 0); -6 (9 either; 5 there are).");
        refused("rider(0, 0)", x -> x.rider(0, 0), -4);
        refused("rider(1, -1)", x -> x.rider(1, -1), -4);
        refused("rider(0, 10)", x -> x.rider(0, 10), -4);
        refused("rider(10, -1)", x -> x.rider(10, -1), -4);
        refused("rider(10, 9)", x -> x.rider(10, 9), -6);
        refused("rider(9, 10)", x -> x.rider(9, 10), -6);
        taken("rider(1, 0)", x -> x.rider(1, 0), 2);
        taken("rider(9, 9)", x -> x.rider(9, 9), 2);
        refusedFull("a 6th", x -> x.rider(1, 0), -6);
        refusedFull("a 6th, weight 0", x -> x.rider(0, 0), -4);
    }

    private static void changesRefused() {
        Check.promise(11, "-1 either.");
        for (int s : new int[] {-1, 3, LEAST, MOST}) {
            refused("waits(" + s + ", 0)", x -> x.waits(s, 0), -1);
            refused("waits(" + s + ", -1)", x -> x.waits(s, -1), -1);
        }
        for (int r : new int[] {-2, 2, -9, 9, LEAST, MOST}) {
            refused("waits(1, " + r + ")", x -> x.waits(1, r), -1);
        }
        taken("waits(1, -1)", x -> x.waits(1, -1), 1);
        taken("waits(2, 1)", x -> x.waits(2, 1), -9);
    }

    private static void startsRefused() {
        Check.promise(12, "-4; -6 99.");
        refused("starts(-1)", x -> x.starts(-1), -4);
        refused("starts(LEAST)", x -> x.starts(LEAST), -4);
        refused("starts(100)", x -> x.starts(100), -6);
        refused("starts(MOST)", x -> x.starts(MOST), -6);
        taken("starts(0)", x -> x.starts(0), 15);
        taken("starts(99)", x -> x.starts(99), 15);
    }

    private static FreeWheelDown far() {
        FreeWheelDown x = Check.hill("s00;s00;s00;s00;s00;s00;s00;s00;s00;s00;r11;");
        for (int i = 0; i < 94; i++) {
            x.begins();
            x.steps(10);
        }
        return x;
    }

    private static void stepsRefused() {
        Check.promise(14, "-4; -6 (60; STEPS above 999).");
        refused("steps(0)", x -> x.steps(0), -4);
        refused("steps(LEAST)", x -> x.steps(LEAST), -4);
        refused("steps(61)", x -> x.steps(61), -6);
        refused("steps(MOST)", x -> x.steps(MOST), -6);
        taken("steps(1)", x -> x.steps(1), 0);
        taken("steps(60)", x -> x.steps(60), 3);
        refused(RefusalTest::far, "steps(60) behind 940", x -> x.steps(60), -6, -6);
        Check.due("steps(59) behind 940", far().steps(59), 3);
    }

    private static void backAndRestoreRefused() {
        Check.promise(15, "-3 none.");
        refused(RefusalTest::full, "back()", x -> x.back(), -3, -3);
        taken("back()", x -> x.back(), 1);
        Check.promise(47, "-3 there is none.");
        refused("restore()", x -> x.restore(), -3);
        taken("image(), restore()", x -> x.image() + x.restore(), 2);
    }

    private static void behindRefused() {
        Check.promise(16, "-4; -6 60; -2.");
        refused("behind(-1, 0)", x -> x.behind(-1, 0), -4);
        refused("behind(-1, 4)", x -> x.behind(-1, 4), -4);
        refused("behind(LEAST, 0)", x -> x.behind(LEAST, 0), -4);
        refused("behind(61, 0)", x -> x.behind(61, 0), -6);
        refused("behind(61, 4)", x -> x.behind(61, 4), -6);
        refused("behind(MOST, 0)", x -> x.behind(MOST, 0), -6);
        refused("behind(0, -1)", x -> x.behind(0, -1), -2);
        refused("behind(60, 4)", x -> x.behind(60, 4), -2);
        taken("behind(0, 0)", x -> x.behind(0, 0), 1);
        taken("behind(60, 3)", x -> x.behind(60, 3), 3);
    }

    private static void otherOf(int promise, String name, Call below, Call above) {
        Check.promise(promise, "-2.");
        refused(name + "(-1)", below, -2);
        refused(name + " one above", above, -2);
    }

    private static void ridesRefused() {
        otherOf(17, "ride", x -> x.ride(-1), x -> x.ride(5));
        taken("ride(4)", x -> x.ride(4), 0);
        otherOf(18, "fastest", x -> x.fastest(-1), x -> x.fastest(2));
        taken("fastest(1)", x -> x.fastest(1), 1);
        Check.promise(19, "-4; -6 99.");
        refused("above(-1)", x -> x.above(-1), -4);
        refused("above(LEAST)", x -> x.above(LEAST), -4);
        refused("above(100)", x -> x.above(100), -6);
        refused("above(MOST)", x -> x.above(MOST), -6);
        taken("above(0)", x -> x.above(0), 0);
        taken("above(99)", x -> x.above(99), -9);
        Check.promise(21, "-1.");
        for (int s : new int[] {-1, 3, LEAST, MOST}) {
            refused("who(" + s + ")", x -> x.who(s), -1);
        }
        taken("who(2)", x -> x.who(2), 1);
        otherOf(27, "straights", x -> x.straights(-1), x -> x.straights(3));
        taken("straights(2)", x -> x.straights(2), 0);
        otherOf(34, "lightest", x -> x.lightest(-1), x -> x.lightest(2));
        taken("lightest(1)", x -> x.lightest(1), 0);
        otherOf(41, "waiting", x -> x.waiting(-1), x -> x.waiting(3));
        taken("waiting(2)", x -> x.waiting(2), 1);
    }

    private static void bestRefused() {
        otherOf(22, "bestStart", x -> x.bestStart(-1), x -> x.bestStart(3));
        taken("bestStart(2)", x -> x.bestStart(2), 0);
        Check.promise(23, "-1 any (one twice, too); -2.");
        refused("bestChanges(-1, 1, 2, 0)", x -> x.bestChanges(-1, 1, 2, 0), -1);
        refused("bestChanges(3, 1, 2, 0)", x -> x.bestChanges(3, 1, 2, 0), -1);
        refused("bestChanges(0, -1, 2, 0)", x -> x.bestChanges(0, -1, 2, 0), -1);
        refused("bestChanges(0, 3, 2, 0)", x -> x.bestChanges(0, 3, 2, 0), -1);
        refused("bestChanges(0, 1, -1, 0)", x -> x.bestChanges(0, 1, -1, 0), -1);
        refused("bestChanges(0, 1, 3, 0)", x -> x.bestChanges(0, 1, 3, 0), -1);
        refused("bestChanges(0, 0, 1, 0)", x -> x.bestChanges(0, 0, 1, 0), -1);
        refused("bestChanges(0, 1, 0, 0)", x -> x.bestChanges(0, 1, 0, 0), -1);
        refused("bestChanges(1, 0, 0, 0)", x -> x.bestChanges(1, 0, 0, 0), -1);
        refused("bestChanges(0, 0, 0, 2)", x -> x.bestChanges(0, 0, 0, 2), -1);
        refused("bestChanges(0, 1, 2, -1)", x -> x.bestChanges(0, 1, 2, -1), -2);
        refused("bestChanges(0, 1, 2, 2)", x -> x.bestChanges(0, 1, 2, 2), -2);
        taken("bestChanges(2, 1, 0, 1)", x -> x.bestChanges(2, 1, 0, 1), 3);
        otherOf(24, "fewest", x -> x.fewest(-1), x -> x.fewest(2));
        taken("fewest(1)", x -> x.fewest(1), 3);
    }

    private static void wouldBeRefused() {
        Check.promise(31, "-1 either.");
        refused("two(-1, 0)", x -> x.two(-1, 0), -1);
        refused("two(3, 0)", x -> x.two(3, 0), -1);
        refused("two(0, -1)", x -> x.two(0, -1), -1);
        refused("two(0, 2)", x -> x.two(0, 2), -1);
        taken("two(2, 1)", x -> x.two(2, 1), 0);
    }

    private static void rowsRefused() {
        Check.promise(42, "-4; -6 (99; 12, too).");
        refused("row(-1)", x -> x.row(-1), -4);
        refused("row(LEAST)", x -> x.row(LEAST), -4);
        refused("row(100)", x -> x.row(100), -6);
        refused("row(MOST)", x -> x.row(MOST), -6);
        taken("row(0)", x -> x.row(0), 3);
        taken("row(99)", x -> x.row(99), 3);
        refusedFull("a 13th", x -> x.row(0), -6);
        refusedFull("a 13th, -1", x -> x.row(-1), -4);
    }

    private static FreeWheelDown longRow() {
        FreeWheelDown x = some();
        x.row(0);
        x.row(0);
        return x;
    }

    private static FreeWheelDown noRiders() {
        return Check.hill("s00;s00;");
    }

    private static void refusedLong(String call, Call asked, int number) {
        refused(RefusalTest::longRow, call, asked, number, number);
    }

    private static void toldByRowsRefused() {
        Check.promise(28, "-2; -3 more numbers than STRETCHES, no RIDERS.");
        refusedLong("whoRode(-1)", x -> x.whoRode(-1), -2);
        refusedLong("whoRode(2)", x -> x.whoRode(2), -2);
        refusedLong("whoRode(0)", x -> x.whoRode(0), -3);
        refused(RefusalTest::noRiders, "whoRode(2) without RIDERS", x -> x.whoRode(2), -2, -2);
        refused(RefusalTest::noRiders, "whoRode(0) without RIDERS", x -> x.whoRode(0), -3, -3);
        taken("whoRode(1)", x -> x.whoRode(1), 1023);
        taken("as many numbers as STRETCHES", x -> x.row(18) * 0 + x.whoRode(0), 8);
        Check.promise(29, "-1; -2; -3 more numbers than STRETCHES.");
        refusedLong("whatKind(-1, 2)", x -> x.whatKind(-1, 2), -1);
        refusedLong("whatKind(3, 0)", x -> x.whatKind(3, 0), -1);
        refusedLong("whatKind(0, -1)", x -> x.whatKind(0, -1), -2);
        refusedLong("whatKind(2, 2)", x -> x.whatKind(2, 2), -2);
        refusedLong("whatKind(2, 1)", x -> x.whatKind(2, 1), -3);
        taken("as many numbers as STRETCHES", x -> x.row(18) * 0 + x.whatKind(2, 1), 1023);
        Check.promise(30, "-2; -3 more numbers than STRETCHES.");
        refusedLong("startTold(-1)", x -> x.startTold(-1), -2);
        refusedLong("startTold(2)", x -> x.startTold(2), -2);
        refusedLong("startTold(1)", x -> x.startTold(1), -3);
        taken("as many numbers as STRETCHES", x -> x.row(18) * 0 + x.startTold(1), 15);
        refusedFull("twelve numbers", x -> x.startTold(0), -3);
    }

    private static void refusedWind(int n, int t, int part, int number) {
        String call = "wind(" + n + ", " + t + ", " + part + ")";
        refused(RefusalTest::some, call, x -> x.wind(n, t, part), LONGS - number, number);
    }

    private static void windRefused() {
        Check.promise(32, "Refused as told: -4 (n below 0, t below 2); -6 (8, or STRETCHES; 20); -2.");
        refusedWind(-1, 2, 0, -4);
        refusedWind(LEAST, 2, 0, -4);
        refusedWind(0, 1, 0, -4);
        refusedWind(0, 0, 0, -4);
        refusedWind(0, LEAST, 0, -4);
        refusedWind(-1, 21, 2, -4);
        refusedWind(9, 1, 2, -4);
        refusedWind(4, 2, 2, -6);
        refusedWind(8, 2, 0, -6);
        refusedWind(MOST, 2, 0, -6);
        refusedWind(3, 21, 2, -6);
        refusedWind(3, MOST, 0, -6);
        refusedWind(3, 20, -1, -2);
        refusedWind(0, 2, 2, -2);
        taken("wind(0, 2, 0)", x -> x.wind(0, 2, 0), 1);
        taken("wind(3, 20, 1)", x -> x.wind(3, 20, 1), 1);
        refused(RefusalTest::full, "wind(9, 2, 0) of ten", x -> x.wind(9, 2, 0), LONGS + 6, -6);
        Check.due("wind(8, 2, 1) of ten", full().wind(8, 2, 1), 256);
    }

    private static void sharesAndSkills() {
        Check.promise(26, "-1.");
        for (int r : new int[] {-1, 2, LEAST, MOST}) {
            refused("skillWanted(" + r + ")", x -> x.skillWanted(r), -1);
        }
        taken("skillWanted(1)", x -> x.skillWanted(1), 2);
        Check.promise(33, "-1.");
        for (int r : new int[] {-2, 2, LEAST, MOST}) {
            refused("shares(" + r + ")", x -> x.shares(r), -1);
        }
        refused(RefusalTest::noRiders, "shares(0) without RIDERS", x -> x.shares(0), -1, -1);
        taken("shares(-1)", x -> x.shares(-1), 1);
        taken("shares(1)", x -> x.shares(1), 2);
    }

    private static void lotsRefused() {
        Check.promise(45, "-4; -6 20; -2.");
        refused("lots(0, 1, 2)", x -> x.lots(0, 1, 2), -4);
        refused("lots(LEAST, 1, 0)", x -> x.lots(LEAST, 1, 0), -4);
        refused("lots(21, 1, 2)", x -> x.lots(21, 1, 2), -6);
        refused("lots(MOST, 1, 0)", x -> x.lots(MOST, 1, 0), -6);
        refused("lots(20, 1, 2)", x -> x.lots(20, 1, 2), -2);
        refused("lots(1, 1, -1)", x -> x.lots(1, 1, -1), -2);
        taken("lots(1, MOST, 0)", x -> x.lots(1, MOST, 1), some().lots(1, MOST, 1));
    }
}
