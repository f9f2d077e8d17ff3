/** Terms, part I without the letters: a test for each sentence that names a boundary. */
public final class EdgesOfTheHillTest {
    private static final int LEAST = Integer.MIN_VALUE;
    private static final int MOST = Integer.MAX_VALUE;
    private static final String TEN_ROADS = "s00;s00;s00;s00;s00;s00;s00;s00;s00;s00;";

    private EdgesOfTheHillTest() {
    }

    public static void main(String[] args) {
        tenStretches();
        sixKinds();
        figures();
        noChangeAtFirst();
        fiveRiders();
        weights();
        skills();
        theStart();
        arrivedIsAsManyAsThereAre();
        fourHows();
        stepsUpTo999();
        fastestOfAll();
        roads();
        bendsGoOn();
        dips();
        smithiesGoOn();
        straightsGoOn();
        levels();
        roadsHold();
        bendsHold();
        smithiesHold();
        othersHold();
        whatGoesNotStepsNot();
        eachStepCounts();
        gettingUp();
        falling();
        standing();
        arriving();
        beginning();
        beginningWithoutRiders();
        beginningWithoutStretches();
        calls512();
        Check.end();
    }

    private static void tenStretches() {
        Check.terms("STRETCHES 0 .. 9 as they come (10 at most)");
        FreeWheelDown x = new FreeWheelDown();
        for (int s = 0; s <= 9; s++) {
            Check.due("stretch " + s, x.stretch(0, s), s);
        }
        Check.due("an 11th", x.stretch(0, 0), -6);
        Check.due("count(0)", x.count(0), 10);
        Check.due("the first", x.stretchOf(0, 1), 0);
        Check.due("the last", x.stretchOf(9, 1), 9);
        Check.due("behind the last", x.stretchOf(10, 1), -1);
        Check.due("ahead of the first", x.stretchOf(-1, 1), -1);
    }

    private static void sixKinds() {
        Check.terms("of KINDS: 0 ROAD; 1 BEND under ROAD; 2 DIP under ROAD; 3 SMITHY under BEND; "
            + "4 STRAIGHT under ROAD; 5 LEVEL under STRAIGHT");
        FreeWheelDown x = new FreeWheelDown();
        for (int kind = 0; kind <= 5; kind++) {
            Check.due("kind " + kind, x.stretch(kind, 0), kind);
            Check.due("kind of " + kind, x.stretchOf(kind, 0), kind);
        }
        for (int kind : new int[] {LEAST, -1, 6, MOST}) {
            Check.due("kind " + kind, x.stretch(kind, 0), -2);
        }
        Check.due("count(0)", x.count(0), 6);
    }

    private static void figures() {
        Check.terms("a FIGURE (0 .. 9)");
        FreeWheelDown x = new FreeWheelDown();
        Check.due("-1", x.stretch(0, -1), -4);
        Check.due("0", x.stretch(0, 0), 0);
        Check.due("9", x.stretch(0, 9), 1);
        Check.due("10", x.stretch(0, 10), -6);
        Check.due("least", x.stretch(0, LEAST), -4);
        Check.due("most", x.stretch(0, MOST), -6);
        Check.due("stretchOf(0, 1)", x.stretchOf(0, 1), 0);
        Check.due("stretchOf(1, 1)", x.stretchOf(1, 1), 9);
    }

    private static void noChangeAtFirst() {
        Check.terms("a CHANGE (a RIDER who waits where it begins) or none (at first)");
        FreeWheelDown x = new FreeWheelDown();
        x.rider(1, 1);
        x.stretch(0, 0);
        Check.due("none at first", x.stretchOf(0, 2), -9);
        Check.due("no CHANGES", x.count(4), 0);
        x.waits(0, 0);
        Check.due("RIDER 0 is not none", x.stretchOf(0, 2), 0);
        Check.due("one CHANGE", x.count(4), 1);
        x.stretch(0, 0);
        Check.due("none at the next", x.stretchOf(1, 2), -9);
    }

    private static void fiveRiders() {
        Check.terms("RIDERS 0 .. 4 as they come (5 at most)");
        FreeWheelDown x = new FreeWheelDown();
        for (int r = 0; r <= 4; r++) {
            Check.due("rider " + r, x.rider(r + 1, r), r);
        }
        Check.due("a 6th", x.rider(1, 1), -6);
        Check.due("count(1)", x.count(1), 5);
        Check.due("the first", x.riderOf(0, 0), 1);
        Check.due("the last", x.riderOf(4, 0), 5);
        Check.due("behind the last", x.riderOf(5, 0), -1);
        Check.due("ahead of the first", x.riderOf(-1, 0), -1);
    }

    private static void weights() {
        Check.terms("a WEIGHT (1 .. 9)");
        FreeWheelDown x = new FreeWheelDown();
        Check.due("0", x.rider(0, 0), -4);
        Check.due("1", x.rider(1, 0), 0);
        Check.due("9", x.rider(9, 0), 1);
        Check.due("10", x.rider(10, 0), -6);
        Check.due("least", x.rider(LEAST, 0), -4);
        Check.due("most", x.rider(MOST, 0), -6);
        Check.due("riderOf(0, 0)", x.riderOf(0, 0), 1);
        Check.due("riderOf(1, 0)", x.riderOf(1, 0), 9);
    }

    private static void skills() {
        Check.terms("a SKILL (0 .. 9)");
        FreeWheelDown x = new FreeWheelDown();
        Check.due("-1", x.rider(1, -1), -4);
        Check.due("0", x.rider(1, 0), 0);
        Check.due("9", x.rider(1, 9), 1);
        Check.due("10", x.rider(1, 10), -6);
        Check.due("least", x.rider(1, LEAST), -4);
        Check.due("most", x.rider(1, MOST), -6);
        Check.due("riderOf(0, 1)", x.riderOf(0, 1), 0);
        Check.due("riderOf(1, 1)", x.riderOf(1, 1), 9);
    }

    private static void theStart() {
        Check.terms("START (a SPEED, 0 .. 99; 9 at first)");
        FreeWheelDown x = new FreeWheelDown();
        Check.due("at first", x.count(2), 9);
        Check.due("-1", x.starts(-1), -4);
        Check.due("0", x.starts(0), 9);
        Check.due("99", x.starts(99), 0);
        Check.due("100", x.starts(100), -6);
        Check.due("least", x.starts(LEAST), -4);
        Check.due("most", x.starts(MOST), -6);
        Check.due("count(2)", x.count(2), 99);
    }

    private static void arrivedIsAsManyAsThereAre() {
        Check.terms("AT a STRETCH (where it begins; as many as there are: ARRIVED)");
        FreeWheelDown x = Check.hill("s00;r11;b;");
        Check.bicycle(x, 0, 9, 0, 0);
        x.steps(1);
        Check.bicycle(x, 1, 10, 0, 3);
        x = Check.hill(TEN_ROADS + "r11;b;g09;");
        Check.bicycle(x, 9, 18, 0, 0);
        x.steps(1);
        Check.bicycle(x, 10, 19, 0, 3);
    }

    private static void fourHows() {
        Check.terms("a SPEED, a RIDER, HOW (0 it goes, 1 STANDS, 2 FALLEN, 3 ARRIVED)");
        Check.bicycle(Check.hill("s00;r10;v00;b;"), 0, 0, 0, 0);
        Check.bicycle(Check.hill("s09;r10;v08;b;g01;"), 0, 0, 0, 1);
        Check.bicycle(Check.hill("s10;r10;v11;b;g01;"), 0, 11, 0, 2);
        Check.bicycle(Check.hill("s00;r10;r10;r10;r10;r10;c04;v00;b;g01;"), 1, 1, 4, 3);
    }

    private static void stepsUpTo999() {
        Check.terms("STEPS (0 .. 999; 0 at first)");
        FreeWheelDown x = Check.hill(TEN_ROADS + "r11;");
        Check.due("at first", x.count(3), 0);
        for (int i = 0; i < 99; i++) {
            x.begins();
            x.steps(10);
        }
        x.begins();
        Check.due("990", x.count(3), 990);
        Check.due("1000 would be", x.steps(10), -6);
        Check.due("990 still", x.count(3), 990);
        Check.due("999 are", x.steps(9), 0);
        Check.due("999", x.count(3), 999);
        Check.due("1000 would be", x.steps(1), -6);
        Check.bicycle(x, 9, 18, 0, 0);
    }

    /** The FIGURE 0, the WEIGHT 9 where another is not told: what the speeds v to v + 2 become on a KIND. */
    private static void goesOn(String stretchAndRider, int v, int first, int second, int third) {
        FreeWheelDown x = Check.hill(stretchAndRider);
        int[] due = {first, second, third};
        for (int i = 0; i < due.length; i++) {
            Check.due(stretchAndRider + " from " + (v + i), x.goesOn(0, 0, v + i), due[i]);
            x.starts(v + i);
            x.begins();
            x.steps(1);
            Check.due(stretchAndRider + " a step from " + (v + i), x.bicycle(1), due[i]);
        }
    }

    private static void fastestOfAll() {
        Check.terms("GOES ON (what SPEED becomes on a STRETCH, with a WEIGHT; 99 at most)");
        goesOn("s00;r99;", 89, 98, 99, 99);
        goesOn("s20;r99;", 80, 98, 99, 99);
        goesOn("s40;r99;", 87, 98, 99, 99);
        goesOn("s00;r99;", 97, 99, 99, 99);
        goesOn("s20;r99;", 97, 99, 99, 99);
        goesOn("s40;r99;", 97, 99, 99, 99);
    }

    private static void roads() {
        Check.terms("ROAD WEIGHT more, FIGURE less");
        goesOn("s09;r10;", 7, 0, 0, 1);
        goesOn("s00;r90;", 0, 9, 10, 11);
        goesOn("s09;r90;", 97, 97, 98, 99);
    }

    private static void bendsGoOn() {
        Check.terms("BEND FIGURE less");
        goesOn("s19;r99;", 8, 0, 0, 1);
        goesOn("s10;r90;", 0, 0, 1, 2);
    }

    private static void dips() {
        Check.terms("DIP twice the WEIGHT more");
        goesOn("s29;r10;", 0, 2, 3, 4);
        goesOn("s29;r90;", 0, 18, 19, 20);
    }

    private static void smithiesGoOn() {
        Check.terms("SMITHY half, cut, of what a BEND makes of it");
        goesOn("s30;r99;", 1, 0, 1, 1);
        goesOn("s39;r99;", 9, 0, 0, 1);
        goesOn("s39;r99;", 0, 0, 0, 0);
        goesOn("s31;r99;", 39, 19, 19, 20);
        FreeWheelDown x = Check.hill("s30;s39;r19;");
        Check.due("of the most", x.goesOn(0, 0, 99), 49);
        Check.due("of the most less 9", x.goesOn(1, 0, 99), 45);
    }

    private static void straightsGoOn() {
        Check.terms("STRAIGHT 2 more than a ROAD");
        goesOn("s49;r10;", 5, 0, 0, 1);
        goesOn("s40;r10;", 0, 3, 4, 5);
    }

    private static void levels() {
        Check.terms("LEVEL FIGURE plus 5 less");
        goesOn("s59;r90;", 13, 0, 0, 1);
        goesOn("s50;r90;", 4, 0, 0, 1);
        goesOn("s50;r90;", 97, 92, 93, 94);
    }

    /** Whether a RIDER of a SKILL gets over a STRETCH with as much SPEED as he holds, and not with one more. */
    private static void holds(int kind, int skill, int most) {
        FreeWheelDown x = Check.hill("s" + kind + "0;r1" + skill + ";");
        Check.due("kind " + kind + ", skill " + skill, x.holds(0, 0), most);
        x.starts(most);
        x.begins();
        Check.due("kind " + kind + ", skill " + skill + ", speed " + most, x.steps(1), 3);
        if (most < 99) {
            x.starts(most + 1);
            x.begins();
            Check.due("kind " + kind + ", skill " + skill + ", speed " + (most + 1), x.steps(1), 2);
        }
    }

    private static void roadsHold() {
        Check.terms("may have at most as it begins): ROAD 99");
        holds(0, 0, 99);
        holds(0, 9, 99);
    }

    private static void bendsHold() {
        Check.terms("BEND 10 plus 4 times the SKILL");
        holds(1, 0, 10);
        holds(1, 1, 14);
        holds(1, 9, 46);
    }

    private static void smithiesHold() {
        Check.terms("SMITHY 5 less than a BEND");
        holds(3, 0, 5);
        holds(3, 1, 9);
        holds(3, 9, 41);
    }

    private static void othersHold() {
        Check.terms("others as a ROAD");
        for (int kind : new int[] {2, 4, 5}) {
            holds(kind, 0, 99);
            holds(kind, 9, 99);
        }
    }

    private static void whatGoesNotStepsNot() {
        Check.terms("A STEP, if it goes");
        FreeWheelDown x = Check.hill("s09;s00;r11;r11;v01;b;g01;");
        Check.bicycle(x, 0, 0, 0, 1);
        x.waits(0, 1);
        Check.due("what STANDS", x.steps(1), 1);
        Check.bicycle(x, 0, 0, 0, 1);
        x = Check.hill("s10;s00;r10;v11;b;g01;");
        Check.due("what is FALLEN", x.steps(1), 2);
        Check.bicycle(x, 0, 11, 0, 2);
        x = Check.hill("s00;r11;b;g01;");
        x.stretch(0, 0);
        Check.due("what has ARRIVED", x.steps(1), 3);
        Check.bicycle(x, 1, 10, 0, 3);
        Check.due("STEPS", x.count(3), 1);
    }

    private static void eachStepCounts() {
        Check.terms("STEPS are 1 more");
        FreeWheelDown x = Check.hill("s00;s00;r11;b;");
        x.steps(1);
        Check.due("AT the next", x.count(3), 1);
        x.steps(1);
        Check.due("ARRIVED", x.count(3), 2);
        x = Check.hill("s09;r11;v01;b;g01;");
        Check.due("STANDS", x.count(3), 1);
        x = Check.hill("s10;r10;v11;b;g01;");
        Check.due("FALLEN", x.count(3), 1);
    }

    private static void gettingUp(int skill, int speed, int rider) {
        FreeWheelDown x = Check.hill("s00;s00;r10;r1" + skill + ";c01;b;");
        x.starts(speed);
        x.begins();
        x.steps(1);
        Check.due("skill " + skill + ", speed " + speed, x.bicycle(2), rider);
    }

    private static void gettingUp() {
        Check.terms("a RIDER who waits there gets up, if SPEED is 20 plus twice his SKILL or less "
            + "(else the one who rides goes on)");
        gettingUp(0, 0, 1);
        gettingUp(0, 20, 1);
        gettingUp(0, 21, 0);
        gettingUp(1, 22, 1);
        gettingUp(1, 23, 0);
        gettingUp(9, 38, 1);
        gettingUp(9, 39, 0);
        gettingUp(9, 99, 0);
    }

    private static void falling() {
        Check.terms("SPEED above what the RIDER HOLDS: FALLEN there");
        FreeWheelDown x = Check.hill("s10;s00;r10;v10;b;g01;");
        Check.bicycle(x, 1, 10, 0, 0);
        x = Check.hill("s10;s00;r10;v11;b;g01;");
        Check.bicycle(x, 0, 11, 0, 2);
        x = Check.hill("s10;s00;r19;r10;c01;v11;b;g01;");
        Check.bicycle(x, 0, 11, 1, 2);
        x = Check.hill("s10;s00;r10;r19;c01;v11;b;g01;");
        Check.bicycle(x, 1, 11, 1, 0);
    }

    private static void standing() {
        Check.terms("else SPEED GOES ON: 0 or less (0 then): it STANDS there");
        FreeWheelDown x = Check.hill("s18;s00;r10;b;g01;");
        Check.bicycle(x, 1, 1, 0, 0);
        x = Check.hill("s19;s00;r10;b;g01;");
        Check.bicycle(x, 0, 0, 0, 1);
        x = Check.hill("s19;s00;r10;v08;b;g01;");
        Check.bicycle(x, 0, 0, 0, 1);
        x = Check.hill("s59;s00;r10;v00;b;g01;");
        Check.bicycle(x, 0, 0, 0, 1);
    }

    private static void arriving() {
        Check.terms("else it is AT the next STRETCH (behind the last: ARRIVED)");
        FreeWheelDown x = Check.hill("s00;s00;r11;b;g01;");
        Check.bicycle(x, 1, 10, 0, 0);
        x.steps(1);
        Check.bicycle(x, 2, 11, 0, 3);
    }

    private static void beginning() {
        Check.terms("BEGIN: the BICYCLE is AT 0, SPEED START, RIDER 0, it goes");
        FreeWheelDown x = Check.hill("s00;s00;s00;r11;r11;c11;v07;b;g02;");
        Check.bicycle(x, 2, 9, 1, 0);
        x.begins();
        Check.bicycle(x, 0, 7, 0, 0);
        Check.due("STEPS stay", x.count(3), 2);
        x.starts(0);
        x.begins();
        Check.bicycle(x, 0, 0, 0, 0);
        x.starts(99);
        x.begins();
        Check.bicycle(x, 0, 99, 0, 0);
    }

    private static void beginningWithoutRiders() {
        Check.terms("(without RIDERS it STANDS, RIDER -9; else without STRETCHES ARRIVED)");
        FreeWheelDown x = new FreeWheelDown();
        Check.due("neither", x.begins(), 1);
        Check.bicycle(x, 0, 9, -9, 1);
        x.stretch(0, 0);
        Check.due("no RIDERS", x.begins(), 1);
        Check.bicycle(x, 0, 9, -9, 1);
        Check.due("it does not go", x.steps(1), 1);
        Check.due("no STEPS", x.count(3), 0);
    }

    private static void beginningWithoutStretches() {
        Check.terms("else without STRETCHES ARRIVED");
        FreeWheelDown x = new FreeWheelDown();
        x.rider(1, 0);
        Check.bicycle(x, 0, 9, -9, 1);
        Check.due("no STRETCHES", x.begins(), 3);
        Check.bicycle(x, 0, 9, 0, 3);
        Check.due("it does not go", x.steps(1), 3);
        x.stretch(0, 0);
        Check.due("with both", x.begins(), 0);
        Check.bicycle(x, 0, 9, 0, 0);
    }

    private static void calls512() {
        Check.holds("An object is used for at most 512 calls",
            Document.tells("An object is used for at most 512 calls after it has been made"));
        FreeWheelDown x = Check.hill("s00;r11;");
        for (int call = 10; call < 512; call++) {
            x.bestChanges(0, 0, 0, 0);
        }
        Check.due("the 512th call", x.count(11), 502);
    }
}
