/** Promises 15, 46 and 47: what is taken back, the image. */
public final class TakenBackTest {
    private static final String HILL = "s14;s20;s41;r55;r81;c11;v20;b;";

    private TakenBackTest() {
    }

    public static void main(String[] args) {
        eachIsTakenBack();
        theBicycleIsTakenBack();
        ridesBehindARestore();
        alsoWhatChangesNothing();
        eightAtMost();
        whatLeavesNone();
        whatLeavesThem();
        theImage();
        Check.end();
    }

    private static void eachIsTakenBack() {
        FreeWheelDown x = Check.hill(HILL);
        Check.due("none", x.back(), -3);
        x.waits(0, 1);
        Check.due("back()", x.back(), 0);
        Check.due("who waits at the first", x.stretchOf(0, 2), -9);
        x.waits(2, 0);
        x.starts(30);
        x.begins();
        x.steps(2);
        Check.due("count(7)", x.count(7), 4);
        Check.due("at", x.bicycle(0), 2);
        Check.due("speed", x.bicycle(1), 36);
        Check.due("steps", x.count(3), 2);
        Check.due("steps taken back", x.back(), 3);
        Check.due("at", x.bicycle(0), 0);
        Check.due("steps", x.count(3), 0);
        Check.due("speed as begun", x.bicycle(1), 30);
        Check.due("how as begun", x.bicycle(3), 0);
        Check.due("begin taken back", x.back(), 2);
        Check.due("speed as before", x.bicycle(1), 20);
        Check.due("start not yet", x.count(2), 30);
        Check.due("start taken back", x.back(), 1);
        Check.due("start", x.count(2), 20);
        Check.due("who waits not yet", x.stretchOf(2, 2), 0);
        Check.due("who waits taken back", x.back(), 0);
        Check.due("who waits", x.stretchOf(2, 2), -9);
        Check.due("other changes", x.stretchOf(1, 2), 1);
        Check.due("none more", x.back(), -3);
    }

    private static void bicycle(String when, FreeWheelDown x, int at, int speed, int rider, int how, int steps) {
        Check.due(when + ": at", x.bicycle(0), at);
        Check.due(when + ": speed", x.bicycle(1), speed);
        Check.due(when + ": rider", x.bicycle(2), rider);
        Check.due(when + ": how", x.bicycle(3), how);
        Check.due(when + ": steps", x.count(3), steps);
    }

    /** Each state of the bicycle is another one, so that each number of it must be what it was. */
    private static void theBicycleIsTakenBack() {
        FreeWheelDown x = Check.hill(HILL);
        x.steps(1);
        bicycle("one step", x, 1, 16, 0, 0, 1);
        x.steps(1);
        bicycle("two steps", x, 2, 32, 1, 0, 2);
        x.steps(1);
        bicycle("three steps", x, 3, 41, 1, 3, 3);
        x.begins();
        bicycle("begun", x, 0, 20, 0, 0, 3);
        x.starts(31);
        x.begins();
        x.steps(60);
        bicycle("fallen", x, 0, 31, 0, 2, 4);
        x.begins();
        Check.due("back()", x.back(), 7);
        bicycle("fallen again", x, 0, 31, 0, 2, 4);
        Check.due("back()", x.back(), 6);
        bicycle("begun with 31", x, 0, 31, 0, 0, 3);
        x.back();
        x.back();
        bicycle("begun again", x, 0, 20, 0, 0, 3);
        Check.due("back()", x.back(), 3);
        bicycle("three steps again", x, 3, 41, 1, 3, 3);
        Check.due("back()", x.back(), 2);
        bicycle("two steps again", x, 2, 32, 1, 0, 2);
        Check.due("back()", x.back(), 1);
        bicycle("one step again", x, 1, 16, 0, 0, 1);
    }

    /** What was seen on an earlier ride is not seen on a later one. */
    private static void ridesBehindARestore() {
        FreeWheelDown x = new FreeWheelDown();
        x.image();
        Check.tell(x, HILL + "c01;");
        x.hill();
        x.ride(0);
        x.restore();
        Check.due("fastest(0)", x.fastest(0), -9);
        Check.due("ride(3)", x.ride(3), 0);
        Check.due("ride(4)", x.ride(4), 0);
        Check.due("waiting(2)", x.waiting(2), -9);
        Check.due("mean(1)", x.mean(1), 1);
        Check.tell(x, HILL);
        x.hill();
        Check.due("late", x.waiting(2), 1);
        x.waits(1, -1);
        Check.due("late no more", x.waiting(2), -9);
    }

    private static void alsoWhatChangesNothing() {
        FreeWheelDown x = new FreeWheelDown();
        x.begins();
        x.starts(9);
        x.steps(1);
        Check.due("all three count", x.count(7), 3);
        x.starts(100);
        x.steps(0);
        x.waits(0, 0);
        Check.due("refused ones do not", x.count(7), 3);
        x.stretch(0, 0);
        x.waits(0, -1);
        Check.due("nobody for nobody", x.count(7), 1);
        Check.due("back()", x.back(), 0);
    }

    private static void eightAtMost() {
        FreeWheelDown x = new FreeWheelDown();
        for (int v = 1; v <= 11; v++) {
            x.starts(v);
        }
        Check.due("eight", x.count(7), 8);
        for (int left = 7; left >= 0; left--) {
            Check.due("back()", x.back(), left);
            Check.due("start", x.count(2), left + 3);
        }
        Check.due("older ones no more", x.back(), -3);
        Check.due("start stays", x.count(2), 3);
        x.starts(50);
        x.starts(60);
        Check.due("back()", x.back(), 1);
        Check.due("start", x.count(2), 50);
        for (int v = 1; v <= 9; v++) {
            x.starts(v);
        }
        Check.due("eight again", x.count(7), 8);
        Check.due("back()", x.back(), 7);
        Check.due("start", x.count(2), 8);
    }

    private static void whatLeavesNone() {
        FreeWheelDown x = Check.hill(HILL);
        x.image();
        x.starts(1);
        x.stretch(0, 0);
        Check.due("behind a stretch", x.count(7), 0);
        x.starts(1);
        x.rider(1, 1);
        Check.due("behind a rider", x.count(7), 0);
        x.starts(1);
        Check.tell(x, "b;");
        x.hill();
        Check.due("behind a hill", x.count(7), 0);
        x.starts(1);
        x.restore();
        Check.due("behind a restore", x.count(7), 0);
        Check.due("back()", x.back(), -3);
    }

    private static void whatLeavesThem() {
        FreeWheelDown x = Check.hill(HILL);
        x.starts(1);
        x.stretch(6, 0);
        x.rider(0, 0);
        x.restore();
        x.hill();
        Check.tell(x, "s60;");
        x.hill();
        x.image();
        x.ride(0);
        x.bestChanges(0, 1, 2, 0);
        x.lots(3, 3, 0);
        x.row(3);
        x.judge();
        x.clear();
        Check.due("still to be taken back", x.count(7), 1);
        Check.due("back()", x.back(), 0);
        Check.due("start", x.count(2), 20);
    }

    private static void theImage() {
        FreeWheelDown x = Check.hill(HILL + "g01;");
        Check.due("there is none", x.restore(), -3);
        Check.due("image()", x.image(), 1);
        x.steps(1);
        x.stretch(5, 5);
        x.rider(3, 3);
        x.waits(0, 2);
        x.waits(1, -1);
        x.starts(44);
        x.begins();
        x.steps(1);
        Check.tell(x, "s1");
        Check.row(x, 7, 8, 9);
        Check.due("steps", x.count(3), 3);
        Check.due("restore()", x.restore(), 1);
        int[] counts = {3, 2, 20, 1, 1, 2, 3, 0, -9, -9, -9, 0, 0, 1, 0, 0, 0};
        for (int what = 0; what < counts.length; what++) {
            Check.due("restored: count(" + what + ")", x.count(what), counts[what]);
        }
        int[] bicycle = {1, 16, 0, 0};
        for (int what = 0; what < 4; what++) {
            Check.due("restored: bicycle(" + what + ")", x.bicycle(what), bicycle[what]);
        }
        Check.due("restored: who waits", x.stretchOf(0, 2), -9);
        Check.due("restored: who waits", x.stretchOf(1, 2), 1);
        Check.due("no such stretch", x.stretchOf(3, 0), -1);
        x.starts(3);
        Check.due("again", x.restore(), 1);
        Check.due("again: start", x.count(2), 20);
        Check.due("a stretch comes as the fourth", x.stretch(2, 2), 3);
        Check.due("nobody waits there", x.stretchOf(3, 2), -9);
        x.image();
        x.starts(5);
        x.restore();
        Check.due("the later image", x.count(0), 4);
        Check.due("an image of nothing new", new FreeWheelDown().image(), 0);
    }
}
