/** Promises 1, 4 to 14, 48: what there is, what a step does. */
public final class HillTest {
    private static final int ROAD = 0;
    private static final int BEND = 1;
    private static final int DIP = 2;
    private static final int SMITHY = 3;
    private static final int STRAIGHT = 4;
    private static final int LEVEL = 5;

    private HillTest() {
    }

    public static void main(String[] args) {
        aNewObject();
        stretchesAndRiders();
        whatGoesOn();
        whatHolds();
        changesAndStart();
        stepsByKinds();
        stepsThatEnd();
        changesOnTheWay();
        beginning();
        countsOfSteps();
        counts();
        Check.end();
    }

    private static void bicycle(String when, FreeWheelDown x, int at, int speed, int rider, int how) {
        Check.due(when + ": bicycle(0)", x.bicycle(0), at);
        Check.due(when + ": bicycle(1)", x.bicycle(1), speed);
        Check.due(when + ": bicycle(2)", x.bicycle(2), rider);
        Check.due(when + ": bicycle(3)", x.bicycle(3), how);
    }

    private static void aNewObject() {
        FreeWheelDown x = new FreeWheelDown();
        bicycle("new", x, 0, 9, -9, 1);
        int[] due = {0, 0, 9, 0, 0, 0, 0, 0, -9, -9, -9, 0, 0, 0, 0, 0, 0, -9};
        for (int what = 0; what < due.length; what++) {
            Check.due("new: count(" + what + ")", x.count(what), due[what]);
        }
        Check.due("count(-1)", x.count(-1), -9);
        Check.due("count(-1) is no refusal", x.count(12), 0);
    }

    private static void stretchesAndRiders() {
        FreeWheelDown x = new FreeWheelDown();
        for (int s = 0; s < 10; s++) {
            Check.due("stretch", x.stretch(s % 6, 9 - s), s);
        }
        Check.due("an eleventh stretch", x.stretch(0, 0), -6);
        for (int r = 0; r < 5; r++) {
            Check.due("rider", x.rider(r + 1, 9 - r), r);
        }
        Check.due("a sixth rider", x.rider(1, 1), -6);
        for (int s = 0; s < 10; s++) {
            Check.due("kind of " + s, x.stretchOf(s, 0), s % 6);
            Check.due("figure of " + s, x.stretchOf(s, 1), 9 - s);
            Check.due("change of " + s, x.stretchOf(s, 2), -9);
        }
        for (int r = 0; r < 5; r++) {
            Check.due("weight of " + r, x.riderOf(r, 0), r + 1);
            Check.due("skill of " + r, x.riderOf(r, 1), 9 - r);
        }
        Check.due("count(0)", x.count(0), 10);
        Check.due("count(1)", x.count(1), 5);
        bicycle("not begun again", x, 0, 9, -9, 1);
    }

    private static void whatGoesOn() {
        FreeWheelDown x = Check.hill("s04;s14;s24;s34;s44;s54;r30;r90;");
        int[] at20 = {19, 16, 26, 8, 21, 11};
        int[] at99 = {98, 95, 99, 47, 99, 90};
        int[] at0 = {0, 0, 6, 0, 1, 0};
        for (int s = 0; s < 6; s++) {
            Check.due("goesOn(" + s + ", 0, 20)", x.goesOn(s, 0, 20), at20[s]);
            Check.due("goesOn(" + s + ", 0, 99)", x.goesOn(s, 0, 99), at99[s]);
            Check.due("goesOn(" + s + ", 0, 0)", x.goesOn(s, 0, 0), at0[s]);
        }
        Check.due("road, heavy, 99 at most", x.goesOn(ROAD, 1, 96), 99);
        Check.due("road, heavy", x.goesOn(ROAD, 1, 93), 98);
        Check.due("straight, heavy, 99 at most", x.goesOn(STRAIGHT, 1, 93), 99);
        Check.due("dip, heavy", x.goesOn(DIP, 1, 20), 38);
        Check.due("smithy, cut", x.goesOn(SMITHY, 1, 7), 1);
        Check.due("smithy, all lost", x.goesOn(SMITHY, 1, 5), 0);
        Check.due("level, just some left", x.goesOn(LEVEL, 1, 10), 1);
        Check.due("bend, below 0", x.goesOn(BEND, 1, 2), 0);
    }

    private static void whatHolds() {
        FreeWheelDown x = Check.hill("s04;s14;s24;s34;s44;s54;r30;r93;");
        int[] skill0 = {99, 10, 99, 5, 99, 99};
        int[] skill3 = {99, 22, 99, 17, 99, 99};
        for (int s = 0; s < 6; s++) {
            Check.due("holds(" + s + ", 0)", x.holds(s, 0), skill0[s]);
            Check.due("holds(" + s + ", 1)", x.holds(s, 1), skill3[s]);
        }
    }

    private static void changesAndStart() {
        FreeWheelDown x = Check.hill("s04;s14;r30;r93;");
        Check.due("waits(1, 0)", x.waits(1, 0), -9);
        Check.due("waits(1, 1)", x.waits(1, 1), 0);
        Check.due("stretchOf(1, 2)", x.stretchOf(1, 2), 1);
        Check.due("stretchOf(0, 2)", x.stretchOf(0, 2), -9);
        Check.due("count(4)", x.count(4), 1);
        Check.due("waits(1, -1)", x.waits(1, -1), 1);
        Check.due("stretchOf(1, 2)", x.stretchOf(1, 2), -9);
        Check.due("count(4)", x.count(4), 0);
        Check.due("waits(0, -1)", x.waits(0, -1), -9);
        Check.due("starts(0)", x.starts(0), 9);
        Check.due("starts(99)", x.starts(99), 0);
        Check.due("starts(5)", x.starts(5), 99);
        Check.due("count(2)", x.count(2), 5);
        bicycle("start does not move it", x, 0, 9, -9, 1);
    }

    /** One step on each kind: figure 4, weight 3, skill 5, speed 20. */
    private static void stepsByKinds() {
        int[] behind = {19, 16, 26, 8, 21, 11};
        for (int kind = 0; kind < 6; kind++) {
            FreeWheelDown x = Check.hill("s" + kind + "4;s00;r35;v20;b;");
            Check.due("steps(1) on kind " + kind, x.steps(1), 0);
            bicycle("on kind " + kind, x, 1, behind[kind], 0, 0);
        }
    }

    private static void stepsThatEnd() {
        FreeWheelDown x = Check.hill("s00;s14;r11;v03;b;");
        Check.due("stands exactly at 0", x.steps(5), 1);
        bicycle("stands exactly at 0", x, 1, 0, 0, 1);
        Check.due("steps that went", x.count(3), 2);
        Check.due("what stands does not go", x.steps(1), 1);
        Check.due("and counts no steps", x.count(3), 2);

        x = Check.hill("s19;r11;v05;b;");
        Check.due("stands below 0", x.steps(1), 1);
        bicycle("stands below 0", x, 0, 0, 0, 1);

        x = Check.hill("s10;s10;r11;v14;b;");
        Check.due("a bend holds as much", x.steps(1), 0);
        x = Check.hill("s10;s10;r11;v15;b;");
        Check.due("a bend holds no more", x.steps(1), 2);
        bicycle("fallen, as fast as before", x, 0, 15, 0, 2);
        Check.due("the step in which it falls counts", x.count(3), 1);
        Check.due("what is fallen does not go", x.steps(60), 2);
        Check.due("what is fallen counts no steps", x.count(3), 1);

        x = Check.hill("s30;r11;v09;b;g01;");
        bicycle("a smithy holds as much", x, 1, 4, 0, 3);
        x = Check.hill("s30;r11;v10;b;g01;");
        bicycle("a smithy holds no more", x, 0, 10, 0, 2);

        x = Check.hill("s00;s00;r21;b;");
        Check.due("arrives", x.steps(60), 3);
        bicycle("arrived", x, 2, 13, 0, 3);
        Check.due("steps that went", x.count(3), 2);
        Check.due("a stretch behind it", x.stretch(0, 0), 2);
        Check.due("what has arrived does not go", x.steps(1), 3);
        bicycle("still arrived", x, 2, 13, 0, 3);
    }

    private static void changesOnTheWay() {
        FreeWheelDown x = Check.hill("s00;s00;r10;r53;c01;v26;b;g01;");
        bicycle("gets up at 20 plus twice the skill", x, 1, 31, 1, 0);
        x = Check.hill("s00;s00;r10;r53;c01;v27;b;g01;");
        bicycle("above that the other goes on", x, 1, 28, 0, 0);
        x = Check.hill("s10;s00;r19;r10;c01;v11;b;g01;");
        bicycle("he who gets up falls", x, 0, 11, 1, 2);
        x = Check.hill("s10;s00;r10;r19;c01;v11;b;g01;");
        bicycle("he who gets up holds", x, 1, 11, 1, 0);
        x = Check.hill("s00;s00;s00;r10;r53;c11;b;g60;");
        bicycle("the second rider brings it on", x, 3, 20, 1, 3);
    }

    private static void beginning() {
        FreeWheelDown x = new FreeWheelDown();
        Check.due("without riders", x.begins(), 1);
        x.stretch(0, 0);
        Check.due("without riders, with a stretch", x.begins(), 1);
        bicycle("without riders", x, 0, 9, -9, 1);
        x = new FreeWheelDown();
        x.rider(1, 1);
        bicycle("a rider more does not begin", x, 0, 9, -9, 1);
        Check.due("without stretches", x.begins(), 3);
        bicycle("without stretches", x, 0, 9, 0, 3);
        x.stretch(0, 0);
        x.starts(42);
        bicycle("a start does not begin", x, 0, 9, 0, 3);
        Check.due("with both", x.begins(), 0);
        bicycle("with both", x, 0, 42, 0, 0);
        x.steps(1);
        Check.due("again", x.begins(), 0);
        bicycle("again", x, 0, 42, 0, 0);
        Check.due("steps stay", x.count(3), 1);
    }

    private static void countsOfSteps() {
        FreeWheelDown x = Check.hill("s00;s00;s00;s00;s00;s00;s00;s00;s00;s00;r11;");
        for (int i = 0; i < 99; i++) {
            x.begins();
            x.steps(10);
        }
        Check.due("990 steps", x.count(3), 990);
        x.begins();
        Check.due("steps(10)", x.steps(10), -6);
        Check.due("steps(9)", x.steps(9), 0);
        Check.due("999 steps", x.count(3), 999);
        Check.due("one more", x.steps(1), -6);
        bicycle("refused", x, 9, 18, 0, 0);
        Check.due("the ride in mind goes on", x.behind(1, 3), 3);
        Check.due("a ride needs no steps", x.ride(1), 3);
    }

    private static void counts() {
        FreeWheelDown x = Check.hill("s00;s10;r11;r22;r33;c12;v77;b;g01;");
        Check.tell(x, "s00");
        Check.row(x, 4, 5);
        x.starts(70);
        int[] due = {2, 3, 70, 1, 1, 3, 2, 1};
        for (int what = 0; what < due.length; what++) {
            Check.due("count(" + what + ")", x.count(what), due[what]);
        }
    }
}
