/** Terms, parts III and IV, THE IMAGE, fractions: a test for each sentence that names a boundary. */
public final class EdgesOfChangesTest {
    private static final String TEN_ROADS = "s00;s00;s00;s00;s00;s00;s00;s00;s00;s00;";

    private EdgesOfChangesTest() {
    }

    public static void main(String[] args) {
        waitsIsTakenBack();
        startsIsTakenBack();
        beginsIsTakenBack();
        stepsAreTakenBack();
        theRefusedDoNotCount();
        whatStaysAsItWasCounts();
        theLatestFirst();
        eightAtMost();
        aStretchLeavesNone();
        aRiderLeavesNone();
        aHillLeavesNone();
        aRestoreLeavesNone();
        theRefusedLeaveAll();
        lightest();
        skilled();
        bends();
        swap();
        swapNone();
        cut();
        cutNone();
        mean();
        meanOfNone();
        brake();
        brakeNone();
        gain();
        waiting();
        idle();
        late();
        theImage();
        whatTheImageLeavesOut();
        lowestTerms();
        Check.end();
    }

    private static void waitsIsTakenBack() {
        Check.terms("What waits(), begins(), steps(), starts() changed can be TAKEN BACK");
        FreeWheelDown x = Check.hill(TEN_ROADS + "r11;r11;r11;r11;r11;");
        x.waits(0, 4);
        x.waits(9, 0);
        x.waits(9, 4);
        x.waits(0, -1);
        Check.due("back()", x.back(), 3);
        Check.due("stretchOf(0, 2)", x.stretchOf(0, 2), 4);
        Check.due("back()", x.back(), 2);
        Check.due("stretchOf(9, 2)", x.stretchOf(9, 2), 0);
        Check.due("back()", x.back(), 1);
        Check.due("stretchOf(9, 2)", x.stretchOf(9, 2), -9);
        Check.due("back()", x.back(), 0);
        Check.due("stretchOf(0, 2)", x.stretchOf(0, 2), -9);
    }

    private static void startsIsTakenBack() {
        Check.terms("What waits(), begins(), steps(), starts() changed can be TAKEN BACK");
        FreeWheelDown x = new FreeWheelDown();
        x.starts(0);
        x.starts(99);
        x.back();
        Check.due("count(2)", x.count(2), 0);
        x.back();
        Check.due("count(2)", x.count(2), 9);
    }

    private static void beginsIsTakenBack() {
        Check.terms("What waits(), begins(), steps(), starts() changed can be TAKEN BACK");
        FreeWheelDown x = new FreeWheelDown();
        x.stretch(0, 0);
        x.rider(1, 1);
        x.begins();
        Check.bicycle(x, 0, 9, 0, 0);
        Check.due("back()", x.back(), 0);
        Check.bicycle(x, 0, 9, -9, 1);
    }

    private static void stepsAreTakenBack() {
        Check.terms("What waits(), begins(), steps(), starts() changed can be TAKEN BACK");
        FreeWheelDown x = Check.hill("s00;s10;r10;r10;c01;v10;b;");
        x.steps(1);
        x.steps(60);
        Check.bicycle(x, 1, 11, 1, 2);
        Check.due("count(3)", x.count(3), 2);
        x.back();
        Check.bicycle(x, 1, 11, 1, 0);
        Check.due("count(3)", x.count(3), 1);
        x.back();
        Check.bicycle(x, 0, 10, 0, 0);
        Check.due("count(3)", x.count(3), 0);
    }

    private static void theRefusedDoNotCount() {
        Check.terms("(each that is not refused counts");
        FreeWheelDown x = Check.hill("s00;r11;");
        x.waits(1, 0);
        x.waits(0, 1);
        x.starts(-1);
        x.starts(100);
        x.steps(0);
        x.steps(61);
        Check.due("none", x.count(7), 0);
        Check.due("back()", x.back(), -3);
        x.waits(0, 0);
        x.starts(100);
        Check.due("one", x.count(7), 1);
    }

    private static void whatStaysAsItWasCounts() {
        Check.terms("also if all stays as it was)");
        FreeWheelDown x = Check.hill("s00;");
        x.waits(0, -1);
        Check.due("nobody again", x.count(7), 1);
        x.starts(9);
        Check.due("the same START", x.count(7), 2);
        x.begins();
        Check.due("BEGIN as it is", x.count(7), 3);
        x.steps(60);
        Check.due("STEPS that do not go", x.count(7), 4);
        Check.due("back()", x.back(), 3);
    }

    private static void theLatestFirst() {
        Check.terms("the latest first");
        FreeWheelDown x = Check.hill("s00;r11;");
        x.starts(1);
        x.waits(0, 0);
        Check.due("back()", x.back(), 1);
        Check.due("CHANGES", x.count(4), 0);
        Check.due("START", x.count(2), 1);
        Check.due("back()", x.back(), 0);
        Check.due("START", x.count(2), 9);
    }

    private static void eightAtMost() {
        Check.terms("8 at most (older ones no more;");
        FreeWheelDown x = new FreeWheelDown();
        for (int v = 1; v <= 8; v++) {
            x.starts(v);
            Check.due("what can be", x.count(7), v);
        }
        x.starts(20);
        Check.due("8 still", x.count(7), 8);
        for (int left = 7; left >= 0; left--) {
            Check.due("back()", x.back(), left);
            Check.due("START", x.count(2), left + 1);
        }
        Check.due("the oldest no more", x.back(), -3);
        Check.due("START", x.count(2), 1);
        for (int v = 30; v <= 90; v++) {
            x.starts(v);
        }
        Check.due("8 again", x.count(7), 8);
        Check.due("back()", x.back(), 7);
        Check.due("START", x.count(2), 89);
        x.starts(7);
        Check.due("8 again", x.count(7), 8);
        Check.due("back()", x.back(), 7);
        Check.due("START", x.count(2), 89);
    }

    private static void leavesNone(FreeWheelDown x) {
        Check.due("what can be", x.count(7), 0);
        Check.due("back()", x.back(), -3);
        Check.due("START", x.count(2), 5);
    }

    private static void aStretchLeavesNone() {
        Check.terms("stretch(), rider(), a HILL without FAULT, restore(), where they are not refused, leave none)");
        FreeWheelDown x = new FreeWheelDown();
        x.starts(5);
        x.stretch(0, 0);
        leavesNone(x);
    }

    private static void aRiderLeavesNone() {
        Check.terms("stretch(), rider(), a HILL without FAULT, restore(), where they are not refused, leave none)");
        FreeWheelDown x = new FreeWheelDown();
        x.starts(5);
        x.rider(1, 0);
        leavesNone(x);
    }

    private static void aHillLeavesNone() {
        Check.terms("stretch(), rider(), a HILL without FAULT, restore(), where they are not refused, leave none)");
        FreeWheelDown x = new FreeWheelDown();
        x.starts(5);
        Check.tell(x, "b;");
        x.hill();
        leavesNone(x);
    }

    private static void aRestoreLeavesNone() {
        Check.terms("stretch(), rider(), a HILL without FAULT, restore(), where they are not refused, leave none)");
        FreeWheelDown x = new FreeWheelDown();
        x.starts(5);
        x.image();
        x.starts(6);
        x.restore();
        leavesNone(x);
    }

    private static void theRefusedLeaveAll() {
        Check.terms("where they are not refused, leave none)");
        FreeWheelDown x = new FreeWheelDown();
        x.starts(5);
        x.stretch(6, 0);
        x.stretch(0, 10);
        x.rider(0, 0);
        x.rider(1, 10);
        x.restore();
        x.hill();
        Check.tell(x, "r00;");
        x.hill();
        Check.tell(x, "b");
        x.hill();
        Check.due("what can be", x.count(7), 1);
        Check.due("back()", x.back(), 0);
        Check.due("START", x.count(2), 9);
        x = Check.hill(TEN_ROADS + "r11;r11;r11;r11;r11;");
        x.starts(5);
        x.stretch(0, 0);
        x.rider(1, 1);
        Check.due("no room", x.count(7), 1);
    }

    private static void lightest() {
        Check.terms("LIGHTEST: the RIDER with least WEIGHT, of several the least; -9.");
        Check.due("of several", Check.hill("r20;r19;r10;").lightest(0), 1);
        Check.due("the first", Check.hill("r10;r20;").lightest(0), 0);
        Check.due("all alike", Check.hill("r90;r90;r90;").lightest(0), 0);
        Check.due("the last", Check.hill("r90;r90;r90;r90;r80;").lightest(0), 4);
        Check.due("no RIDERS", Check.hill("s00;").lightest(0), -9);
    }

    private static void skilled() {
        Check.terms("SKILLED: the one with most SKILL, of several the least; -9.");
        Check.due("of several", Check.hill("r28;r19;r19;").lightest(1), 1);
        Check.due("the first", Check.hill("r19;r18;").lightest(1), 0);
        Check.due("all alike, without any", Check.hill("r90;r90;r90;").lightest(1), 0);
        Check.due("the last", Check.hill("r10;r10;r10;r10;r11;").lightest(1), 4);
        Check.due("no RIDERS", Check.hill("s00;").lightest(1), -9);
    }

    private static void bends() {
        Check.terms("BENDS: how many BENDS (SMITHIES, too) there are.");
        Check.due("none there", new FreeWheelDown().bends(), 0);
        for (int kind = 0; kind < 6; kind++) {
            Check.due("kind " + kind, Check.hill("s" + kind + "0;").bends(), kind == 1 || kind == 3 ? 1 : 0);
        }
        Check.due("ten", Check.hill("s10;s30;s10;s30;s10;s30;s10;s30;s10;s30;").bends(), 10);
    }

    private static void swap() {
        Check.terms("SWAP: the two STRETCHES (10 the lesser and the other) that, changing places (CHANGES stay), "
            + "make a RIDE go farthest, farther than now, of several the first");
        Check.due("0 and 1", Check.hill("s10;s09;r10;v15;").swap(), 1);
        Check.due("0 and 9", Check.hill("s10;s00;s00;s00;s00;s00;s00;s00;s00;s09;r10;v11;").swap(), 9);
        Check.due("8 and 9", Check.hill("s02;s02;s02;s02;s02;s02;s02;s02;s10;s09;r10;v26;").swap(), 89);
        Check.due("the farthest, not the first", Check.hill("s10;s05;s09;r10;v15;").swap(), 2);
        Check.due("of several the first", Check.hill("s10;s09;s09;r10;v15;").swap(), 1);
        Check.due("the CHANGE stays", Check.hill("s30;s09;r90;r19;c11;v06;").swap(), 1);
        Check.due("the CHANGE does not come along", Check.hill("s30;s09;r90;r19;c01;v06;").swap(), -9);
    }

    private static void swapNone() {
        Check.terms("farther than now, of several the first; -9.");
        Check.due("as far is not farther", Check.hill("s10;s10;r10;v11;").swap(), -9);
        Check.due("it ARRIVES now", Check.hill("s09;s10;r10;v15;").swap(), -9);
        Check.due("one STRETCH", Check.hill("s10;r10;v11;").swap(), -9);
        Check.due("no STRETCHES", Check.hill("r10;").swap(), -9);
        Check.due("no RIDERS", Check.hill("s10;s09;").swap(), -9);
    }

    private static void cut() {
        Check.terms("CUT: the STRETCH that, left out, makes a RIDE ARRIVE, of several the least");
        Check.due("the first", Check.hill("s10;s00;s00;r10;v15;").cut(), 0);
        Check.due("the last", Check.hill("s00;s00;s00;s00;s00;s00;s00;s00;s00;s10;r10;").cut(), 9);
        Check.due("of several the least", Check.hill("s00;s09;s09;r10;v15;").cut(), 1);
        Check.due("the only one", Check.hill("s10;r10;v15;").cut(), 0);
        Check.due("who waits there goes with it", Check.hill("s00;s10;r19;r90;c01;v15;").cut(), 0);
        Check.due("who waits behind it comes along", Check.hill("s10;s00;s10;r10;r19;c11;v15;").cut(), 0);
    }

    private static void cutNone() {
        Check.terms("of several the least; -9 (it does now, too).");
        Check.due("it ARRIVES now", Check.hill("s00;s00;r10;").cut(), -9);
        Check.due("it ARRIVES now without STRETCHES", Check.hill("r10;").cut(), -9);
        Check.due("farther is not enough", Check.hill("s10;s00;s10;r10;v15;").cut(), -9);
        Check.due("no RIDERS", Check.hill("s10;").cut(), -9);
    }

    private static void mean(String text, int above, int below) {
        FreeWheelDown x = Check.hill(text);
        Check.due("mean(0) of " + text, x.mean(0), above);
        Check.due("mean(1) of " + text, x.mean(1), below);
    }

    private static void mean() {
        Check.terms("MEAN SPEED: as the STRETCHES that a RIDE comes to begin: a fraction");
        mean("s00;r90;v10;", 10, 1);
        mean("s00;s00;r10;v10;", 21, 2);
        mean("s00;s19;s00;r10;v08;", 17, 2);
        mean("s00;s10;s00;r10;v10;", 21, 2);
        mean("s10;s00;r10;v11;", 11, 1);
        mean(TEN_ROADS + "r90;v99;", 99, 1);
        mean(TEN_ROADS + "r10;v00;", 9, 2);
    }

    private static void meanOfNone() {
        Check.terms("a fraction (0 over 1 of none).");
        mean("r11;", 0, 1);
        mean("v50;", 0, 1);
        mean("s00;", 0, 1);
    }

    private static void brake() {
        Check.terms("BRAKE: the STRETCH at which, SPEED half (cut) as it begins, a RIDE goes farthest, "
            + "farther than now, of several the least");
        Check.due("half, cut", Check.hill("s10;r10;v21;").brake(), 0);
        Check.due("half is too fast", Check.hill("s10;r10;v22;").brake(), -9);
        Check.due("of several the least", Check.hill("s10;s10;s10;r10;v11;").brake(), 0);
        Check.due("the last", Check.hill("s06;s06;s06;s06;s06;s06;s06;s06;s29;s10;r60;v01;").brake(), 9);
        Check.due("the farthest", Check.hill("s01;s39;s01;s10;r19;v55;").brake(), 0);
        Check.due("RIDER 0 brakes", Check.hill("s10;r10;r19;v22;").brake(), -9);
        Check.due("who waits gets up at half", Check.hill("s10;r10;r19;c01;v77;").brake(), 0);
        Check.due("who waits does not run", Check.hill("s10;r10;r19;c01;v78;").brake(), -9);
        Check.due("where it would not STAND", Check.hill("s09;s29;s10;r50;v09;").brake(), 2);
    }

    private static void brakeNone() {
        Check.terms("farther than now, of several the least; -9.");
        Check.due("as far is not farther", Check.hill("s19;r10;v09;").brake(), -9);
        Check.due("it ARRIVES now", Check.hill("s10;r10;v10;").brake(), -9);
        Check.due("no STRETCHES", Check.hill("r10;").brake(), -9);
        Check.due("no RIDERS", Check.hill("s10;").brake(), -9);
    }

    private static void gain() {
        Check.terms("GAIN: how much SPEED is more behind a STRETCH than ahead of it in a RIDE "
            + "(may be below 0; 0 not got over).");
        FreeWheelDown x = Check.hill("s19;s00;s19;s00;r19;v18;");
        Check.due("below 0", x.gain(0), -9);
        Check.due("above 0", x.gain(1), 1);
        Check.due("below 0", x.gain(2), -9);
        Check.due("the last", x.gain(3), 1);
        x.starts(17);
        Check.due("STANDS there", x.gain(2), 0);
        Check.due("does not come there", x.gain(3), 0);
        x.starts(47);
        Check.due("FALLEN there", x.gain(0), 0);
        Check.due("99 at most", Check.hill("s20;r90;v98;").gain(0), 1);
        Check.due("no RIDERS", Check.hill("s20;").gain(0), 0);
    }

    private static void waiting() {
        Check.terms("WAITING: RIDERS (bits) who wait somewhere.");
        Check.due("none", Check.hill("s00;r11;").waiting(0), 0);
        Check.due("the first", Check.hill("s00;r11;c00;").waiting(0), 1);
        Check.due("twice", Check.hill("s00;s00;r11;c00;c10;").waiting(0), 1);
        Check.due("all", Check.hill("s00;s00;s00;s00;s00;r11;r11;r11;r11;r11;c00;c11;c22;c33;c44;").waiting(0), 31);
        Check.due("no RIDERS", Check.hill("s00;").waiting(0), 0);
        Check.due("too fast to get up", Check.hill("s00;r11;r10;c01;v99;").waiting(0), 2);
    }

    private static void idle() {
        Check.terms("IDLE: those who get over no STRETCH in a RIDE.");
        Check.due("none", Check.hill("s00;r11;").waiting(1), 0);
        Check.due("FALLEN at once", Check.hill("s10;r10;v11;").waiting(1), 1);
        Check.due("FALLEN behind the CHANGE", Check.hill("s00;s10;r10;r10;c11;v10;").waiting(1), 2);
        Check.due("all", Check.hill("r11;r11;r11;r11;r11;").waiting(1), 31);
        Check.due("no RIDERS", Check.hill("s00;").waiting(1), 0);
    }

    private static void late() {
        Check.terms("LATE: the last STRETCH at which a CHANGE gets up in a RIDE; -9.");
        Check.due("nobody waits", Check.hill("s00;r10;").waiting(2), -9);
        Check.due("too fast", Check.hill("s00;r10;r10;c01;v21;").waiting(2), -9);
        Check.due("the first", Check.hill("s00;r10;r10;c01;v20;").waiting(2), 0);
        Check.due("the last that gets up", Check.hill("s00;s00;s00;r10;r10;c01;c10;c21;v19;").waiting(2), 1);
        Check.due("where it is FALLEN", Check.hill("s00;s10;r10;r10;c11;v10;").waiting(2), 1);
        Check.due("a ride does not come there", Check.hill("s00;s10;s00;r10;r10;c01;c21;v10;").waiting(2), 0);
        Check.due("of ten", Check.hill(TEN_ROADS + "r10;r10;c91;v00;").waiting(2), 9);
    }

    private static void theImage() {
        Check.terms("THE IMAGE: all that there is of I");
        FreeWheelDown x = Check.hill("s15;s00;r12;r34;c11;v20;b;g01;");
        x.starts(33);
        x.image();
        Check.tell(x, "s59;r99;c10;c01;v77;b;g01;");
        x.hill();
        Check.due("restore()", x.restore(), 1);
        int[] counts = {2, 2, 33, 1, 1};
        for (int what = 0; what < counts.length; what++) {
            Check.due("count(" + what + ")", x.count(what), counts[what]);
        }
        Check.bicycle(x, 0, 20, 0, 2);
        Check.due("no stretch 2", x.stretchOf(2, 0), -1);
        Check.due("no rider 2", x.riderOf(2, 0), -1);
        Check.due("who waits", x.stretchOf(0, 2), -9);
        Check.due("who waits", x.stretchOf(1, 2), 1);
        Check.due("figure", x.stretchOf(0, 1), 5);
        Check.due("skill", x.riderOf(1, 1), 4);
    }

    private static void whatTheImageLeavesOut() {
        Check.terms("but it, letters, the ROW, REFUSALS.");
        FreeWheelDown x = new FreeWheelDown();
        x.feed('b');
        x.row(1);
        x.row(-1);
        x.image();
        x.feed(';');
        x.row(2);
        x.row(-1);
        x.row(100);
        x.restore();
        Check.due("letters", x.count(5), 2);
        Check.due("the ROW", x.count(6), 2);
        Check.due("REFUSALS -4", x.count(14), 2);
        Check.due("REFUSALS -6", x.count(16), 1);
        x.starts(50);
        Check.due("the IMAGE is there still", x.restore(), 0);
        Check.due("START", x.count(2), 9);
    }

    private static void lowestTerms() {
        Check.terms("(Fractions are told in lowest terms; 0 as 0 over 1.)");
        mean("s00;s00;r20;v10;", 11, 1);
        mean("s00;s00;s00;s01;r20;v10;", 13, 1);
        mean("s00;s01;s00;s01;r20;v10;", 25, 2);
        mean("s01;s00;s00;s00;r11;v00;", 0, 1);
        FreeWheelDown x = Check.hill("s01;s01;s01;r10;v06;");
        Check.due("wind(3, 2, 0)", x.wind(3, 2, 0), 1);
        Check.due("wind(3, 2, 1)", x.wind(3, 2, 1), 2);
        x.starts(0);
        Check.due("wind(3, 2, 0)", x.wind(3, 2, 0), 0);
        Check.due("wind(3, 2, 1)", x.wind(3, 2, 1), 1);
        x.starts(99);
        Check.due("wind(3, 2, 0)", x.wind(3, 2, 0), 1);
        Check.due("wind(3, 2, 1)", x.wind(3, 2, 1), 1);
    }
}
