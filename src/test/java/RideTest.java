/** Promises 16 to 21, 27, 33 to 35, 38, 40, 41: what is seen on a ride as it is now. */
public final class RideTest {
    private static final String STRETCHES = "s14;s20;s33;s41;s42;s52;s05;";
    private static final String RIDERS = "r55;r81;r29;";

    private RideTest() {
    }

    public static void main(String[] args) {
        aRideThatArrives();
        aRideThatFalls();
        aRideThatStands();
        changesThatFail();
        whoWaitsForHimself();
        whoHandsOverAtOnce();
        inMind();
        withoutRiders();
        withoutStretches();
        straights();
        weddings();
        lightest();
        severalTheLeast();
        fractions();
        Check.end();
    }

    private static FreeWheelDown arriving() {
        return Check.hill(STRETCHES + RIDERS + "c52;c30;v18;");
    }

    private static FreeWheelDown falling() {
        return Check.hill(STRETCHES + RIDERS + "c11;c52;c30;v20;");
    }

    private static void ride(FreeWheelDown x, int at, int how, int speed, int riders, int failed) {
        Check.due("ride(0)", x.ride(0), at);
        Check.due("ride(1)", x.ride(1), how);
        Check.due("ride(2)", x.ride(2), speed);
        Check.due("ride(3)", x.ride(3), riders);
        Check.due("ride(4)", x.ride(4), failed);
    }

    /** Speeds: 18, 14, 24, 10, 16, 21, 14, then 11. */
    private static void aRideThatArrives() {
        FreeWheelDown x = arriving();
        ride(x, 7, 3, 11, 2, 0);
        int[] who = {0, 0, 0, 0, 0, 2, 2};
        int[] gains = {-4, 10, -14, 6, 5, -7, -3};
        for (int s = 0; s < 7; s++) {
            Check.due("who(" + s + ")", x.who(s), who[s]);
            Check.due("gain(" + s + ")", x.gain(s), gains[s]);
        }
        Check.due("fastest(0)", x.fastest(0), 24);
        Check.due("fastest(1)", x.fastest(1), 2);
        Check.due("above(0)", x.above(0), 0);
        Check.due("above(18)", x.above(18), 0);
        Check.due("above(19)", x.above(19), 2);
        Check.due("above(24)", x.above(24), 2);
        Check.due("above(25)", x.above(25), -9);
        Check.due("smithy()", x.smithy(), 2);
        Check.due("shares(0)", x.shares(0), 5);
        Check.due("shares(1)", x.shares(1), 0);
        Check.due("shares(2)", x.shares(2), 2);
        Check.due("shares(-1)", x.shares(-1), 5);
        Check.due("mean(0)", x.mean(0), 117);
        Check.due("mean(1)", x.mean(1), 7);
        Check.due("waiting(0)", x.waiting(0), Check.bits(0, 2));
        Check.due("waiting(1)", x.waiting(1), Check.bits(1));
        Check.due("waiting(2)", x.waiting(2), 5);
        Check.due("straights(2)", x.straights(2), 1);
        Check.due("bends()", x.bends(), 2);
        Check.due("a ride moves nothing", x.bicycle(3), 1);
        Check.due("a ride counts no steps", x.count(3), 0);
    }

    /** Speeds: 20, 16, 32, where the second rider does not hold. */
    private static void aRideThatFalls() {
        FreeWheelDown x = falling();
        ride(x, 2, 2, 32, 2, 0);
        int[] who = {0, 1, -9, -9, -9, -9, -9};
        int[] gains = {-4, 16, 0, 0, 0, 0, 0};
        for (int s = 0; s < 7; s++) {
            Check.due("who(" + s + ")", x.who(s), who[s]);
            Check.due("gain(" + s + ")", x.gain(s), gains[s]);
        }
        Check.due("fastest(0)", x.fastest(0), 32);
        Check.due("fastest(1)", x.fastest(1), 2);
        Check.due("above(21)", x.above(21), 2);
        Check.due("above(33)", x.above(33), -9);
        Check.due("smithy()", x.smithy(), -9);
        Check.due("mean(0)", x.mean(0), 68);
        Check.due("mean(1)", x.mean(1), 3);
        Check.due("shares(-1)", x.shares(-1), 1);
        Check.due("waiting(0)", x.waiting(0), Check.bits(0, 1, 2));
        Check.due("waiting(1)", x.waiting(1), Check.bits(2));
        Check.due("waiting(2)", x.waiting(2), 1);
        Check.due("straights(2)", x.straights(2), 0);
    }

    /** Speeds: 9, 5, then 0 on the second stretch. */
    private static void aRideThatStands() {
        FreeWheelDown x = Check.hill("s05;s06;s30;r11;");
        ride(x, 1, 1, 0, 1, 0);
        Check.due("who(0)", x.who(0), 0);
        Check.due("who(1)", x.who(1), -9);
        Check.due("gain(0)", x.gain(0), -4);
        Check.due("gain(1)", x.gain(1), 0);
        Check.due("shares(0)", x.shares(0), 1);
        Check.due("mean(0)", x.mean(0), 7);
        Check.due("mean(1)", x.mean(1), 1);
        Check.due("above(9)", x.above(9), 0);
        Check.due("smithy()", x.smithy(), -9);
    }

    /** Rider 1 gets up at 20 or less; speeds: 18, 20, 22, 24. */
    private static void changesThatFail() {
        FreeWheelDown x = Check.hill("s00;s00;s00;s00;s00;r20;r20;c11;c21;c31;v19;");
        ride(x, 5, 3, 29, 1, 3);
        Check.due("waiting(2)", x.waiting(2), -9);
        Check.due("waiting(1)", x.waiting(1), Check.bits(1));
        x.starts(18);
        ride(x, 5, 3, 28, 2, 2);
        Check.due("waiting(2)", x.waiting(2), 1);
        Check.due("waiting(1)", x.waiting(1), 0);
        x.starts(16);
        ride(x, 5, 3, 26, 2, 1);
        Check.due("waiting(2)", x.waiting(2), 2);
        x.waits(0, 1);
        ride(x, 5, 3, 26, 1, 1);
        Check.due("the first one is idle", x.waiting(1), Check.bits(0));
        for (int s = 1; s < 4; s++) {
            x.waits(s, -1);
        }
        Check.due("one waits at the first stretch", x.waiting(0), Check.bits(1));
    }

    private static void whoWaitsForHimself() {
        FreeWheelDown x = Check.hill("s40;s00;r20;c00;c10;v18;");
        ride(x, 2, 3, 24, 1, 1);
        Check.due("nobody else to wed", x.straights(2), 0);
        Check.due("waiting(2)", x.waiting(2), 0);
    }

    private static void inMind() {
        FreeWheelDown x = arriving();
        int[] standing = {0, 9, -9, 1};
        for (int what = 0; what < 4; what++) {
            Check.due("behind(60, " + what + ")", x.behind(60, what), standing[what]);
        }
        x.begins();
        int[] speeds = {18, 14, 24, 10, 16, 21, 14, 11, 11, 11};
        for (int k = 0; k < 10; k++) {
            Check.due("behind(" + k + ", 0)", x.behind(k, 0), Math.min(k, 7));
            Check.due("behind(" + k + ", 1)", x.behind(k, 1), speeds[k]);
            Check.due("behind(" + k + ", 2)", x.behind(k, 2), k < 6 ? 0 : 2);
            Check.due("behind(" + k + ", 3)", x.behind(k, 3), k < 7 ? 0 : 3);
        }
        Check.due("in mind alone", x.bicycle(0), 0);
        x.steps(3);
        Check.due("from where it is", x.behind(2, 1), 21);
        Check.due("behind(60, 0)", x.behind(60, 0), 7);
        Check.due("steps", x.count(3), 3);
    }

    /** Who hands over as the first stretch begins did not ride; who falls or stands on it did. */
    private static void whoHandsOverAtOnce() {
        FreeWheelDown x = Check.hill("s00;s10;r10;r10;r10;c01;c12;v11;");
        ride(x, 1, 2, 12, 2, 0);
        x.waits(0, 0);
        ride(x, 1, 2, 12, 2, 0);
        x.waits(1, -1);
        ride(x, 1, 2, 12, 1, 0);
        ride(Check.hill("s10;r10;v11;"), 0, 2, 11, 1, 0);
        ride(Check.hill("s10;r10;r10;c01;v11;"), 0, 2, 11, 1, 0);
        ride(Check.hill("s10;r10;r10;c01;v00;"), 0, 1, 0, 1, 0);
        ride(Check.hill("s09;s00;r10;r19;r10;c01;c12;v28;"), 2, 3, 21, 2, 0);
        ride(Check.hill("s09;s00;r10;r19;r10;c01;c12;v38;"), 2, 3, 31, 1, 1);
    }

    /** No step is made, so that no stretch begins in the ride: as if there were none. */
    private static void withoutRiders() {
        FreeWheelDown x = Check.hill("s30;s00;");
        ride(x, 0, 1, 9, 0, 0);
        Check.due("fastest(0)", x.fastest(0), -9);
        Check.due("fastest(1)", x.fastest(1), -9);
        Check.due("above(0)", x.above(0), -9);
        Check.due("above(9)", x.above(9), -9);
        Check.due("smithy()", x.smithy(), -9);
        Check.due("who(0)", x.who(0), -9);
        Check.due("gain(0)", x.gain(0), 0);
        Check.due("shares(-1)", x.shares(-1), 0);
        Check.due("mean(0)", x.mean(0), 0);
        Check.due("mean(1)", x.mean(1), 1);
        Check.due("lightest(0)", x.lightest(0), -9);
        Check.due("lightest(1)", x.lightest(1), -9);
        for (int what = 0; what < 2; what++) {
            Check.due("waiting(" + what + ")", x.waiting(what), 0);
        }
    }

    private static void withoutStretches() {
        FreeWheelDown x = Check.hill("r11;r22;");
        ride(x, 0, 3, 9, 0, 0);
        Check.due("fastest(0)", x.fastest(0), -9);
        Check.due("fastest(1)", x.fastest(1), -9);
        Check.due("above(0)", x.above(0), -9);
        Check.due("smithy()", x.smithy(), -9);
        Check.due("mean(0)", x.mean(0), 0);
        Check.due("mean(1)", x.mean(1), 1);
        Check.due("shares(-1)", x.shares(-1), 0);
        Check.due("waiting(1)", x.waiting(1), Check.bits(0, 1));
        Check.due("waiting(2)", x.waiting(2), -9);
        Check.due("straights(0)", x.straights(0), 0);
        Check.due("straights(1)", x.straights(1), -9);
        Check.due("bends()", x.bends(), 0);
    }

    private static void straights(String text, int most, int first) {
        FreeWheelDown x = Check.hill(text);
        Check.due("straights(0) of " + text, x.straights(0), most);
        Check.due("straights(1) of " + text, x.straights(1), first);
    }

    private static void straights() {
        straights("s00;s10;s20;s30;", 0, -9);
        straights("s40;", 1, 0);
        straights("s00;s50;s00;s40;", 1, 1);
        straights("s40;s00;s40;s50;s00;s50;s40;", 2, 2);
        straights("s00;s00;s40;s50;s40;", 3, 2);
        straights("s50;s50;s50;s50;s50;s50;s50;s50;s50;s50;", 10, 0);
    }

    /** The handing over counts on straights and levels, each time, between two. */
    private static void weddings() {
        FreeWheelDown x = Check.hill("s40;s50;s00;s40;s40;r11;r11;c01;c10;c21;c31;c40;v09;");
        Check.due("0 to 1, 1 to 0, then 1 to 0", x.straights(2), 3);
        x.starts(99);
        Check.due("too fast to get up", x.straights(2), 0);
        x.waits(2, -1);
        x.starts(9);
        Check.due("0 to 1, 1 to 0, 0 to 1, 1 to 0", x.straights(2), 4);
    }

    private static void lightest() {
        FreeWheelDown x = Check.hill("r53;r35;r49;r39;r98;");
        Check.due("lightest(0)", x.lightest(0), 1);
        Check.due("lightest(1)", x.lightest(1), 2);
        x = Check.hill("s00;s10;s20;s30;s40;s50;s30;r10;");
        Check.due("lightest(0)", x.lightest(0), 0);
        Check.due("lightest(1)", x.lightest(1), 0);
        Check.due("bends()", x.bends(), 3);
    }

    private static void severalTheLeast() {
        FreeWheelDown x = Check.hill("s01;s01;s30;s01;s30;r19;");
        Check.due("fastest(0)", x.fastest(0), 9);
        Check.due("fastest(1)", x.fastest(1), 0);
        Check.due("smithy()", x.smithy(), 2);
    }

    private static void fractions() {
        FreeWheelDown x = Check.hill("s01;s00;s00;s00;r11;v00;");
        Check.due("mean(0) of 0 alone", x.mean(0), 0);
        Check.due("mean(1) of 0 alone", x.mean(1), 1);
        x = Check.hill("s00;s00;r20;v10;");
        Check.due("mean(0) of 10 and 12", x.mean(0), 11);
        Check.due("mean(1) of 10 and 12", x.mean(1), 1);
        x = Check.hill("s00;s00;s00;s01;r20;v10;");
        Check.due("mean(0) of 10, 12, 14, 16", x.mean(0), 13);
        Check.due("mean(1) of 10, 12, 14, 16", x.mean(1), 1);
        x = Check.hill("s00;s01;s00;s01;r20;v10;");
        Check.due("mean(0) of 10, 12, 13, 15", x.mean(0), 25);
        Check.due("mean(1) of 10, 12, 13, 15", x.mean(1), 2);
    }
}
