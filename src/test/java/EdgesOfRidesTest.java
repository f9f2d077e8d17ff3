import java.math.BigInteger;

/** Terms, part II: a test for each sentence that names a boundary. */
public final class EdgesOfRidesTest {
    private static final String TEN_ROADS = "s00;s00;s00;s00;s00;s00;s00;s00;s00;s00;";
    private static final int ALL_WEIGHTS = 1022;
    private static final int ALL_SKILLS = 1023;
    private static final int ALL_FIGURES = 1023;
    private static final int ALL_KINDS = 63;

    private EdgesOfRidesTest() {
    }

    public static void main(String[] args) {
        inMind();
        aRide();
        howManyRode();
        howManyFailed();
        fastest();
        fastestFallen();
        fastestWithoutStretches();
        above();
        aboveNone();
        smithy();
        who();
        bestStart();
        bestStartArrives();
        bestChangesOthersAsNow();
        bestChanges();
        bestChangesNone();
        fewest();
        solo();
        heaviest();
        skillWanted();
        straights();
        straightsNone();
        wedTwo();
        wed();
        rowTellsSpeeds();
        weightsTold();
        skillsTold();
        kindsTold();
        figuresTold();
        startTold();
        startToldNone();
        twoBrakes();
        twoRuns();
        twoPays();
        twoFirstPair();
        twoWhereARideDoesNotCome();
        windOn();
        windOdds();
        windStands();
        windArrives();
        shares();
        rowOfNumbers();
        judgedNobody();
        judgedNoSuchStretch();
        judgedNone();
        lotsOfCenturies();
        lotsOfAll();
        lotsNone();
        lotsWithoutRiders();
        drawsWrap();
        Check.end();
    }

    private static void inMind() {
        Check.terms("In mind, k STEPS on (0 .. 60): AT, SPEED, RIDER, HOW.");
        FreeWheelDown x = Check.hill(TEN_ROADS + "r11;b;");
        int[] none = {0, 9, 0, 0};
        int[] sixty = {10, 19, 0, 3};
        for (int what = 0; what < 4; what++) {
            Check.due("behind(0, " + what + ")", x.behind(0, what), none[what]);
            Check.due("behind(60, " + what + ")", x.behind(60, what), sixty[what]);
            Check.due("behind(-1, " + what + ")", x.behind(-1, what), -4);
            Check.due("behind(61, " + what + ")", x.behind(61, what), -6);
        }
        Check.due("behind(9, 3)", x.behind(9, 3), 0);
        Check.due("behind(10, 3)", x.behind(10, 3), 3);
        Check.bicycle(x, 0, 9, 0, 0);
        Check.due("STEPS", x.count(3), 0);
    }

    private static void ride(FreeWheelDown x, int at, int how, int speed) {
        Check.due("ride(0)", x.ride(0), at);
        Check.due("ride(1)", x.ride(1), how);
        Check.due("ride(2)", x.ride(2), speed);
    }

    private static void aRide() {
        Check.terms("A RIDE (from BEGIN, till it does not go): where it ends (AT); HOW; SPEED as it ends");
        FreeWheelDown x = Check.hill("s00;s00;r11;b;g01;");
        x.starts(50);
        ride(x, 2, 3, 52);
        Check.bicycle(x, 1, 10, 0, 0);
        ride(Check.hill(TEN_ROADS + "r11;v00;"), 10, 3, 10);
        ride(Check.hill("s00;s19;r11;v08;"), 1, 1, 0);
        ride(Check.hill("s00;s10;r10;v10;"), 1, 2, 11);
        ride(Check.hill("s00;"), 0, 1, 9);
        ride(Check.hill("r11;"), 0, 3, 9);
    }

    private static void howManyRode(String text, int rode) {
        Check.due("ride(3) of " + text, Check.hill(text).ride(3), rode);
    }

    private static void howManyRode() {
        Check.terms("how many RIDERS rode");
        howManyRode("s00;r11;r11;", 1);
        howManyRode("s00;s00;r11;r11;c11;", 2);
        howManyRode("s00;s00;r11;r10;c11;v20;", 1);
        howManyRode("s00;s00;s00;s00;s00;r10;r10;r10;r10;r10;c11;c22;c33;c44;v00;", 5);
        howManyRode("s00;s00;s00;r10;r10;c11;c20;v00;", 2);
        howManyRode("s00;", 0);
        howManyRode("r11;", 0);
    }

    private static void howManyFailed() {
        Check.terms("how many CHANGES failed");
        Check.due("none there", Check.hill("s00;r10;").ride(4), 0);
        Check.due("as fast as may be", Check.hill("s00;r10;r10;c01;v20;").ride(4), 0);
        Check.due("too fast", Check.hill("s00;r10;r10;c01;v21;").ride(4), 1);
        Check.due("all ten too fast", Check.hill(TEN_ROADS + "r10;c00;c10;c20;c30;c40;c50;c60;v21;").ride(4), 7);
        Check.due("a ride does not come there", Check.hill("s10;s00;r10;r10;c11;v21;").ride(4), 0);
    }

    private static void fastest(String text, int speed, int stretch) {
        FreeWheelDown x = Check.hill(text);
        Check.due("fastest(0) of " + text, x.fastest(0), speed);
        Check.due("fastest(1) of " + text, x.fastest(1), stretch);
    }

    private static void fastest() {
        Check.terms("FASTEST: the greatest SPEED of a RIDE as a STRETCH begins");
        fastest("s00;s00;s00;r10;v97;", 99, 2);
        fastest("s20;r90;v10;", 10, 0);
        fastest("s20;r11;v00;", 0, 0);
        fastest("s10;s10;s10;r11;v05;", 5, 0);
        fastest("s11;s20;s10;s10;r19;v05;", 6, 2);
    }

    private static void fastestFallen() {
        Check.terms("(FALLEN there, too); the STRETCH, of several the least");
        fastest("s00;s10;s00;r10;v10;", 11, 1);
        fastest("s10;s00;r10;v11;", 11, 0);
        fastest("s20;s12;s30;r18;v40;", 42, 1);
        fastest("s20;s10;s30;r18;v40;", 42, 1);
    }

    private static void fastestWithoutStretches() {
        Check.terms("-9 no STRETCHES");
        fastest("r11;", -9, -9);
        fastest("v50;", -9, -9);
    }

    private static void above() {
        Check.terms("ABOVE: the first STRETCH of a RIDE that begins with SPEED v (0 .. 99) or more");
        FreeWheelDown x = Check.hill("s00;s00;s00;r10;v97;");
        Check.due("above(-1)", x.above(-1), -4);
        Check.due("above(0)", x.above(0), 0);
        Check.due("above(97)", x.above(97), 0);
        Check.due("above(98)", x.above(98), 1);
        Check.due("above(99)", x.above(99), 2);
        Check.due("above(100)", x.above(100), -6);
        Check.due("where it is FALLEN", Check.hill("s00;s10;r10;v10;").above(11), 1);
    }

    private static void aboveNone() {
        Check.terms("with SPEED v (0 .. 99) or more; -9.");
        FreeWheelDown x = Check.hill("s00;s00;r10;v97;");
        Check.due("behind the last", x.above(99), -9);
        x.starts(0);
        Check.due("above(0)", x.above(0), 0);
        Check.due("above(2)", x.above(2), -9);
        Check.due("no STRETCHES", Check.hill("r11;").above(0), -9);
    }

    private static void smithy() {
        Check.terms("SMITHY: the first one a RIDE gets over; -9.");
        Check.due("of two", Check.hill("s00;s30;s30;r10;v04;").smithy(), 1);
        Check.due("the last stretch", Check.hill("s00;s00;s30;r10;v03;").smithy(), 2);
        Check.due("FALLEN there", Check.hill("s00;s30;r10;v05;").smithy(), -9);
        Check.due("STANDS there", Check.hill("s30;s30;r10;v01;").smithy(), -9);
        Check.due("does not come there", Check.hill("s10;s30;r10;v11;").smithy(), -9);
        Check.due("there is none", Check.hill("s10;r10;").smithy(), -9);
    }

    private static void who() {
        Check.terms("WHO: the RIDER who gets over a STRETCH in a RIDE (where it STANDS, is FALLEN, nobody does); -9.");
        FreeWheelDown x = Check.hill("s00;s19;s00;r10;v08;");
        Check.due("gets over", x.who(0), 0);
        Check.due("STANDS", x.who(1), -9);
        Check.due("does not come there", x.who(2), -9);
        x = Check.hill("s00;s10;s00;r10;v10;");
        Check.due("gets over", x.who(0), 0);
        Check.due("FALLEN", x.who(1), -9);
        Check.due("does not come there", x.who(2), -9);
        Check.due("who gets up", Check.hill("s00;r10;r10;r10;r10;r10;c04;").who(0), 4);
        Check.due("who does not", Check.hill("s00;r10;r10;c01;v21;").who(0), 0);
    }

    private static void bestStart(String text, int best, int end, int arrives) {
        FreeWheelDown x = Check.hill(text);
        Check.due("bestStart(0) of " + text, x.bestStart(0), best);
        Check.due("bestStart(1) of " + text, x.bestStart(1), end);
        Check.due("bestStart(2) of " + text, x.bestStart(2), arrives);
    }

    private static void bestStart() {
        Check.terms("BEST START: the START (0 .. 99) with which a RIDE goes farthest, of several the least; "
            + "where it ends");
        bestStart("s00;r11;", 0, 1, 0);
        bestStart("s09;s09;r11;", 17, 2, 17);
        bestStart("s59;s59;s59;s59;s59;s59;s59;r11;", 99, 7, 99);
        bestStart("s59;s59;s59;s59;s59;s59;s59;s00;r11;", 99, 8, 99);
        bestStart("s00;s59;s59;s59;s59;s59;s59;s59;s59;r10;", 98, 8, -9);
    }

    private static void bestStartArrives() {
        Check.terms("ARRIVES: the least START with which it does; -9.");
        bestStart("s10;r10;", 1, 1, 1);
        bestStart("s00;s10;s10;r10;v50;", 0, 3, 0);
        bestStart("s40;s40;s40;s40;s10;r10;", 0, 4, -9);
        bestStart("r11;", 0, 0, 0);
        bestStart("s00;", 0, 0, -9);
    }

    private static void bestChangesOthersAsNow() {
        Check.terms("of all ways to have a RIDER or none wait at three told STRETCHES (others as now)");
        FreeWheelDown x = Check.hill("s00;s00;s00;s10;r10;r19;v15;c31;");
        Check.due("as now", x.bestChanges(0, 1, 2, 0), 999);
        Check.due("as now", x.bestChanges(0, 1, 2, 1), 4);
        x.waits(3, -1);
        Check.due("without", x.bestChanges(0, 1, 2, 0), 991);
        Check.due("without", x.bestChanges(0, 1, 2, 1), 4);
        x.waits(3, 0);
        Check.due("another", x.bestChanges(0, 1, 2, 0), 999);
        Check.due("another", x.bestChanges(0, 1, 2, 1), 3);
        Check.due("the told one as it would be", x.bestChanges(3, 1, 2, 0), 991);
    }

    private static void bestChanges() {
        Check.terms("that by which a RIDE goes farthest, of several the first "
            + "(by the told order: none first, then RIDERS by numbers)");
        FreeWheelDown x = Check.hill("s09;s00;s00;r11;r91;r91;v01;c00;c10;c20;");
        Check.due("the first told", x.bestChanges(0, 1, 2, 0), 199);
        Check.due("the second told", x.bestChanges(1, 0, 2, 0), 919);
        Check.due("the third told", x.bestChanges(2, 1, 0, 0), 991);
        Check.due("where it ends", x.bestChanges(2, 1, 0, 1), 3);
        x = Check.hill("s00;s00;s00;r11;r11;c00;c11;c20;");
        Check.due("all ways alike", x.bestChanges(0, 1, 2, 0), 999);
        x = Check.hill("s09;s10;s00;r11;r91;r19;v11;");
        Check.due("of several the first", x.bestChanges(0, 1, 2, 0), 999);
        x.starts(8);
        Check.due("the last RIDER is none better", x.bestChanges(0, 1, 2, 0), 199);
        x.starts(11);
        x.waits(0, 1);
        Check.due("others as now", x.ride(0), 3);
    }

    private static void bestChangesNone() {
        Check.terms("100 times the first's, 10 times the second's, the third's (9 none); where it ends.");
        Check.due("no RIDERS", Check.hill("s00;s00;s00;").bestChanges(0, 1, 2, 0), 999);
        Check.due("no RIDERS", Check.hill("s00;s00;s00;").bestChanges(0, 1, 2, 1), 0);
        FreeWheelDown x = Check.hill("s09;s00;s00;r11;r11;r11;r11;r91;v01;");
        Check.due("RIDER 4", x.bestChanges(0, 1, 2, 0), 499);
        x = Check.hill("s09;s00;s00;r11;v08;");
        Check.due("it does not go on", x.bestChanges(0, 1, 2, 0), 999);
        Check.due("where it ends", x.bestChanges(0, 1, 2, 1), 0);
    }

    private static void fewest() {
        Check.terms("FEWEST: the fewest CHANGES (STRETCHES, bits, of several the least) kept, others none, "
            + "with which a RIDE goes as far");
        Check.due("none there", Check.hill("s00;s00;r11;").fewest(0), 0);
        Check.due("none wanted", Check.hill("s00;s00;r11;c00;c10;").fewest(0), 0);
        Check.due("none to go farther", Check.hill("s09;s00;r91;r11;c01;v08;").fewest(0), 0);
        Check.due("of several the least", Check.hill("s00;s00;s10;r10;r19;c01;c11;v15;").fewest(0), 1);
        Check.due("the only one", Check.hill("s00;s00;s10;r10;r19;c11;v15;").fewest(0), 2);
        Check.due("one of the last", Check.hill(TEN_ROADS.substring(4) + "s19;r10;r19;c91;v10;").fewest(0), 512);
        Check.due("two", Check.hill("s10;s09;s09;s09;r10;r19;r90;c01;c12;c22;v11;").fewest(0), 3);
        Check.due("no STRETCHES", Check.hill("r11;").fewest(0), 0);
        Check.due("no RIDERS", Check.hill("s00;").fewest(0), 0);
    }

    private static void solo() {
        Check.terms("SOLO: RIDERS (bits) who alone, from STRETCH 0 on, without CHANGES, go as far or farther.");
        FreeWheelDown x = Check.hill("s09;s30;r99;r90;r10;c11;v08;");
        Check.due("it ends", x.ride(0), 1);
        Check.due("0 farther, 1 as far, 2 less far", x.fewest(1), 3);
        Check.due("CHANGES are none", Check.hill("s10;s00;r10;r19;c00;c11;v11;").fewest(1), 3);
        Check.due("CHANGES are none", Check.hill("s10;s00;r10;r19;c01;v11;").fewest(1), 2);
        Check.due("just so far, without WIND", Check.hill("s00;s14;r10;v04;").fewest(1), 1);
        Check.due("all five", Check.hill("s00;r11;r11;r11;r11;r11;").fewest(1), 31);
        Check.due("none", Check.hill("s10;s09;s09;r10;r19;r90;c01;c12;v11;").fewest(1), 0);
        Check.due("no STRETCHES", Check.hill("r11;r11;").fewest(1), 3);
        Check.due("no RIDERS", Check.hill("s00;").fewest(1), 0);
    }

    private static void heaviest() {
        Check.terms("HEAVIEST: the greatest WEIGHT (1 .. 9) of RIDER 0 with which a RIDE ARRIVES; -9");
        Check.due("the greatest", Check.hill("s00;r10;").heaviest(), 9);
        Check.due("one less", Check.hill("s00;s10;r50;v02;").heaviest(), 8);
        Check.due("the least", Check.hill("s00;s10;r50;v09;").heaviest(), 1);
        Check.due("none", Check.hill("s00;s10;r50;v10;").heaviest(), -9);
        Check.due("RIDER 0 alone", Check.hill("s00;s10;r90;r10;c01;v09;").heaviest(), 9);
        Check.due("no RIDERS", Check.hill("s00;").heaviest(), -9);
        Check.due("no STRETCHES", Check.hill("r10;").heaviest(), 9);
    }

    private static void skillWanted() {
        Check.terms("SKILL WANTED: the least SKILL (0 .. 9) of a RIDER with which it does; -9.");
        Check.due("the least", Check.hill("s10;r15;v10;").skillWanted(0), 0);
        Check.due("one more", Check.hill("s10;r15;v11;").skillWanted(0), 1);
        Check.due("the greatest", Check.hill("s10;r15;v46;").skillWanted(0), 9);
        Check.due("none", Check.hill("s10;r15;v47;").skillWanted(0), -9);
        Check.due("of another one", Check.hill("s10;r10;r15;c01;v38;").skillWanted(1), 9);
        Check.due("of another one, who does not get up", Check.hill("s10;r10;r15;c01;v39;").skillWanted(1), -9);
        Check.due("no STRETCHES", Check.hill("r15;").skillWanted(0), 0);
    }

    private static void straights(String text, int most, int first) {
        FreeWheelDown x = Check.hill(text);
        Check.due("straights(0) of " + text, x.straights(0), most);
        Check.due("straights(1) of " + text, x.straights(1), first);
    }

    private static void straights() {
        Check.terms("STRAIGHTS: the most STRAIGHTS (LEVELS, too) one behind the other; the first of the first such");
        straights("s40;", 1, 0);
        straights("s50;", 1, 0);
        straights("s00;s40;s00;s50;", 1, 1);
        straights("s40;s00;s50;s40;s00;s40;s50;", 2, 2);
        straights("s40;s40;s00;s50;s40;s50;", 3, 3);
        straights("s00;s40;s40;s40;", 3, 1);
        straights("s50;s40;s50;s40;s50;s40;s50;s40;s50;s40;", 10, 0);
    }

    private static void straightsNone() {
        Check.terms("the first of the first such; -9;");
        straights("s00;s10;s20;s30;", 0, -9);
        straights("r11;", 0, -9);
    }

    private static void wedTwo() {
        Check.terms("WED: two RIDERS wed where one hands over to the other on one");
        Check.due("0 to 1", Check.hill("s40;r10;r10;c01;").straights(2), 1);
        Check.due("0 to 1, 1 to 0", Check.hill("s40;s50;r10;r10;c01;c10;").straights(2), 2);
        Check.due("one alone", Check.hill("s40;r10;r10;c00;").straights(2), 0);
    }

    private static void wed() {
        Check.terms("(the CHANGE waits at a STRAIGHT, LEVELS, too, and gets up): how many in a RIDE.");
        for (int kind = 0; kind < 6; kind++) {
            FreeWheelDown x = Check.hill("s" + kind + "0;r10;r10;c01;v20;");
            Check.due("kind " + kind, x.straights(2), kind >= 4 ? 1 : 0);
            x.starts(21);
            Check.due("kind " + kind + ", too fast", x.straights(2), 0);
        }
        Check.due("it STANDS there", Check.hill("s50;r10;r10;c01;v05;").straights(2), 1);
        Check.due("a ride does not come there", Check.hill("s10;s40;r10;r10;c11;v11;").straights(2), 0);
        Check.due("nobody waits", Check.hill("s40;r10;r10;").straights(2), 0);
        Check.due("two", Check.hill("s40;s40;r10;r10;c01;c10;").straights(2), 2);
    }

    private static void whoRode(FreeWheelDown x, int weights, int skills) {
        Check.due("whoRode(0)", x.whoRode(0), weights);
        Check.due("whoRode(1)", x.whoRode(1), skills);
    }

    private static void rowTellsSpeeds() {
        Check.terms("WHO RODE: a ROW tells SPEED as STRETCHES 0, 1, .. begin in a RIDE (0 where it does not come)");
        FreeWheelDown x = Check.hill("s10;s00;r50;v11;");
        Check.row(x, 11, 0);
        whoRode(x, ALL_WEIGHTS, 1);
        Check.row(x, 11, 11);
        whoRode(x, 0, ALL_SKILLS - 1);
        Check.row(x, 0);
        whoRode(x, 0, 0);
        x.starts(0);
        whoRode(x, ALL_WEIGHTS, ALL_SKILLS);
        Check.row(x);
        whoRode(x, ALL_WEIGHTS, ALL_SKILLS);
    }

    private static void weightsTold() {
        Check.terms("WEIGHTS (bits 1 .. 9) of RIDER 0 by which all of it is so");
        FreeWheelDown x = Check.hill("s00;s00;s00;r50;v10;");
        Check.row(x, 10, 11);
        whoRode(x, Check.bits(1), 0);
        Check.row(x, 10, 19);
        whoRode(x, Check.bits(9), 0);
        Check.row(x, 10, 10);
        whoRode(x, 0, 0);
        Check.row(x, 10, 20);
        whoRode(x, 0, 0);
        Check.row(x, 10, 15, 20);
        whoRode(x, Check.bits(5), ALL_SKILLS);
        Check.row(x, 10, 15, 21);
        whoRode(x, 0, 0);
        x = Check.hill("s00;s00;r50;v91;");
        Check.row(x, 91, 99);
        whoRode(x, Check.bits(8, 9), 0);
    }

    private static void skillsTold() {
        Check.terms("SKILLS (bits 0 .. 9)");
        FreeWheelDown x = Check.hill("s10;s00;r50;v46;");
        Check.row(x, 46, 46);
        whoRode(x, 0, Check.bits(9));
        Check.row(x, 46, 0);
        whoRode(x, ALL_WEIGHTS, ALL_SKILLS - Check.bits(9));
        x.starts(10);
        Check.row(x, 10, 10);
        whoRode(x, ALL_WEIGHTS, ALL_SKILLS);
        Check.row(x, 10, 0);
        whoRode(x, 0, 0);
    }

    private static void whatKind(FreeWheelDown x, int stretch, int kinds, int figures) {
        Check.due("whatKind(" + stretch + ", 0)", x.whatKind(stretch, 0), kinds);
        Check.due("whatKind(" + stretch + ", 1)", x.whatKind(stretch, 1), figures);
    }

    private static void kindsTold() {
        Check.terms("WHAT KIND: a ROW likewise: KINDS (bits) of a STRETCH by which it is so");
        FreeWheelDown x = Check.hill("s10;s00;r10;v10;");
        int[] behind = {11, 10, 12, 0, 13, 5};
        for (int kind = 0; kind < behind.length; kind++) {
            Check.row(x, 10, behind[kind]);
            Check.due("kind " + kind, x.whatKind(0, 0), Check.bits(kind));
        }
        Check.row(x);
        whatKind(x, 0, ALL_KINDS, ALL_FIGURES);
        Check.row(x, 10, 10);
        whatKind(x, 1, ALL_KINDS, ALL_FIGURES);
        Check.row(x, 9);
        whatKind(x, 1, 0, 0);
    }

    private static void figuresTold() {
        Check.terms("FIGURES (bits 0 .. 9).");
        FreeWheelDown x = Check.hill("s15;s00;r10;v10;");
        for (int figure = 0; figure <= 9; figure++) {
            Check.row(x, 10, 10 - figure);
            Check.due("figure " + figure, x.whatKind(0, 1), Check.bits(figure));
        }
        Check.row(x, 10, 0);
        whatKind(x, 0, Check.bits(3, 5), 0);
        Check.row(x, 10, 11);
        whatKind(x, 0, 0, 0);
    }

    private static void startTold(FreeWheelDown x, int many, int least) {
        Check.due("startTold(0)", x.startTold(0), many);
        Check.due("startTold(1)", x.startTold(1), least);
    }

    private static void startTold() {
        Check.terms("START TOLD: by how many STARTS (0 .. 99) it is so; the least");
        FreeWheelDown x = Check.hill("s00;s10;s00;r10;");
        startTold(x, 100, 0);
        Check.row(x, 0);
        startTold(x, 1, 0);
        Check.row(x, 99);
        startTold(x, 1, 99);
        Check.row(x, 0, 1);
        startTold(x, 1, 0);
        Check.row(x, 9, 10, 10);
        startTold(x, 1, 9);
        Check.row(x, 99, 99, 0);
        startTold(x, 1, 99);
        x = Check.hill("s00;s00;");
        Check.row(x, 0, 0);
        startTold(x, 100, 0);
    }

    private static void startToldNone() {
        Check.terms("by how many STARTS (0 .. 99) it is so; the least; -9.");
        FreeWheelDown x = Check.hill("s00;s10;s00;r10;");
        Check.row(x, 5, 5);
        startTold(x, 0, -9);
        Check.row(x, 10, 11, 11);
        startTold(x, 0, -9);
        Check.row(x, 99, 100);
        startTold(x, 1, 99);
    }

    private static void twoBrakes() {
        Check.terms("the one who rides brakes or not (SPEED half, cut, as it begins)");
        FreeWheelDown x = Check.hill("s10;s00;s00;r10;v21;");
        Check.due("21 is 10", x.two(0, 0), 10);
        x.starts(22);
        Check.due("22 is 11", x.two(0, 0), 0);
        x.starts(10);
        Check.due("10 he holds", x.two(0, 0), 0);
    }

    private static void twoRuns() {
        Check.terms("a told RIDER waits there who runs or not (he gets up with SPEED up to 10 more)");
        FreeWheelDown x = Check.hill("s10;s00;s00;r10;r19;v48;");
        Check.due("48 with 10 more, but he does not hold it", x.two(0, 1), 10);
        x = Check.hill("s10;s00;s00;r10;r19;v46;");
        Check.due("46 with 10 more", x.two(0, 1), 1);
        x.starts(39);
        Check.due("39 with 10 more", x.two(0, 1), 1);
        x.starts(38);
        Check.due("38 as it is", x.two(0, 1), 0);
        x = Check.hill("s09;".repeat(10) + "r10;r90;v30;");
        Check.due("30 for skill 0", x.two(0, 1), 1);
        x.starts(31);
        Check.due("31 for skill 0", x.two(0, 1), 10);
    }

    private static void twoPays() {
        Check.terms("each would have most of how many STRETCHES are got over by that RIDE, 1 less for himself "
            + "if he does so");
        Check.due("one STRETCH more is not more", Check.hill("s10;r10;r19;v40;").two(0, 1), 0);
        Check.due("two STRETCHES more are", Check.hill("s10;s00;r10;r19;v40;").two(0, 1), 1);
        Check.due("braking for one", Check.hill("s10;r10;v20;").two(0, 0), 0);
        Check.due("braking for two", Check.hill("s10;s00;r10;v20;").two(0, 0), 10);
    }

    private static void twoFirstPair() {
        Check.terms("the first pair (10 the first's and the other's, 1 does) by which neither has more by another "
            + "choice alone");
        Check.due("nothing to be had", Check.hill("s00;r10;").two(0, 0), 0);
        Check.due("who waits gets up anyway", Check.hill("s10;s00;s00;r10;r19;v20;").two(0, 1), 0);
        FreeWheelDown x = Check.hill("s10;s00;s00;r10;r19;v46;");
        Check.due("either alone would do: the first such pair", x.two(0, 1), 1);
        Check.due("01 alone would not do, as the first would brake",
            Check.hill("s10;s20;s10;s00;s00;r10;r99;v46;").two(0, 1), 10);
        Check.due("01 alone would not do, as the other would not run for nothing",
            Check.hill("s10;s00;s00;r19;r18;v88;").two(0, 1), 10);
        Check.due("the first alone would do", Check.hill("s10;s00;s00;r10;r10;v20;").two(0, 1), 10);
        x = Check.hill("s59;s10;" + "s09;".repeat(8) + "r14;r92;v52;");
        Check.due("both must", x.two(0, 1), 11);
    }

    private static void twoWhereARideDoesNotCome() {
        Check.terms("-9 (a RIDE does not come there, too).");
        FreeWheelDown x = Check.hill("s00;s10;s00;r10;r19;v10;");
        Check.due("where it begins", x.two(0, 0), 10);
        Check.due("where it is FALLEN", x.two(1, 1), 0);
        Check.due("behind that", x.two(2, 1), -9);
        x.stretch(0, 0);
        Check.due("the last", x.two(3, 1), -9);
        x = Check.hill("s00;s19;s00;r10;v08;");
        Check.due("where it STANDS", x.two(1, 0), 0);
        Check.due("behind that", x.two(2, 0), -9);
    }

    private static void wind(FreeWheelDown x, int n, int t, long above, long below) {
        Check.due("wind(" + n + ", " + t + ", 0)", x.wind(n, t, 0), above);
        Check.due("wind(" + n + ", " + t + ", 1)", x.wind(n, t, 1), below);
    }

    private static void windOn() {
        Check.terms("on each of STRETCHES 0 .. n less 1 (n 0 .. 8 and no more than there are), by itself");
        FreeWheelDown x = Check.hill("s01;s01;s01;r10;v05;");
        wind(x, 0, 2, 1, 1);
        wind(x, 1, 2, 1, 2);
        wind(x, 2, 2, 1, 4);
        wind(x, 3, 2, 1, 8);
        Check.due("wind(4, 2, 0)", x.wind(4, 2, 0), 4000000000000000006L);
        Check.due("wind(-1, 2, 0)", x.wind(-1, 2, 0), 4000000000000000004L);
        x = Check.hill("s01;".repeat(9) + "r10;v05;");
        wind(x, 8, 2, 1, 256);
        Check.due("wind(9, 2, 0)", x.wind(9, 2, 0), 4000000000000000006L);
        wind(Check.hill("r11;"), 0, 2, 1, 1);
        Check.due("wind(1, 2, 0)", Check.hill("r11;").wind(1, 2, 0), 4000000000000000006L);
    }

    private static void windOdds() {
        Check.terms("with odds 1 in t (2 .. 20)");
        FreeWheelDown x = Check.hill("s01;s01;r10;v05;");
        Check.due("wind(1, 1, 0)", x.wind(1, 1, 0), 4000000000000000004L);
        wind(x, 1, 2, 1, 2);
        wind(x, 1, 20, 19, 20);
        wind(x, 2, 20, 361, 400);
        Check.due("wind(1, 21, 0)", x.wind(1, 21, 0), 4000000000000000006L);
    }

    private static void windStands() {
        Check.terms("SPEED is 5 less behind it (0 or less: it STANDS there)");
        wind(Check.hill("s01;r10;v04;"), 1, 2, 1, 2);
        wind(Check.hill("s01;r10;v05;"), 1, 2, 1, 2);
        wind(Check.hill("s01;r10;v06;"), 1, 2, 1, 1);
        wind(Check.hill("s20;s10;r99;v99;"), 1, 2, 0, 1);
        wind(Check.hill("s01;s10;r10;v15;"), 1, 2, 1, 2);
        wind(Check.hill("s01;s10;r10;v16;"), 1, 2, 0, 1);
    }

    private static void windArrives() {
        Check.terms("how likely a RIDE ARRIVES: a fraction.");
        wind(Check.hill("s01;s01;s01;s01;s01;s01;s01;s01;r10;v41;"), 8, 20, 1, 1);
        wind(Check.hill("s01;s01;s01;s01;s01;s01;s01;s01;r10;v40;"), 8, 20, 25599999999L, 25600000000L);
        wind(Check.hill("s01;s01;s01;s01;s01;s01;s01;s01;r10;v05;"), 8, 20, 16983563041L, 25600000000L);
        wind(Check.hill("s10;r10;v11;"), 1, 20, 0, 1);
        wind(Check.hill("s00;r10;r90;v04;"), 1, 2, 1, 2);
        wind(Check.hill("s10;r10;r19;c01;v39;"), 1, 2, 0, 1);
        wind(Check.hill("s10;r10;r19;c01;v38;"), 1, 2, 1, 1);
        wind(Check.hill("s00;"), 1, 2, 0, 1);
    }

    private static void shares() {
        Check.terms("SHARES: how many STRETCHES each RIDER gets over in a RIDE: of one; "
            + "the most less the least of all RIDERS.");
        FreeWheelDown x = Check.hill("s00;s00;s00;s00;s10;r10;r10;r10;c11;c32;v09;");
        Check.due("shares(0)", x.shares(0), 1);
        Check.due("shares(1)", x.shares(1), 2);
        Check.due("FALLEN is not over", x.shares(2), 1);
        Check.due("shares(-1)", x.shares(-1), 1);
        x.rider(1, 1);
        Check.due("shares(3)", x.shares(3), 0);
        Check.due("shares(-1)", x.shares(-1), 2);
        Check.due("one RIDER alone", Check.hill(TEN_ROADS + "r11;").shares(-1), 0);
        Check.due("one of two", Check.hill(TEN_ROADS + "r11;r11;").shares(-1), 10);
        Check.due("no RIDERS", Check.hill("s00;").shares(-1), 0);
    }

    private static void rowOfNumbers() {
        Check.terms("A ROW of numbers (0 .. 99; 12 at most)");
        FreeWheelDown x = new FreeWheelDown();
        Check.due("row(-1)", x.row(-1), -4);
        Check.due("row(0)", x.row(0), 1);
        Check.due("row(99)", x.row(99), 2);
        Check.due("row(100)", x.row(100), -6);
        for (int i = 3; i <= 12; i++) {
            Check.due("row(9)", x.row(9), i);
        }
        Check.due("a 13th", x.row(9), -6);
        Check.due("count(6)", x.count(6), 12);
    }

    private static void judgedNobody() {
        Check.terms("JUDGED: RIDERS who get over STRETCHES 0, 1, .. in a RIDE (9 nobody): the first that is not so");
        FreeWheelDown x = Check.hill("s00;s10;s00;r10;r10;r10;c01;v10;");
        Check.row(x, 1, 9, 9);
        Check.due("all are so", x.judge(), -9);
        Check.row(x, 0, 9, 9);
        Check.due("the first is not", x.judge(), 0);
        Check.row(x, 1, 1, 9);
        Check.due("who is FALLEN is nobody", x.judge(), 1);
        Check.row(x, 1, 9, 0);
        Check.due("the last is not", x.judge(), 2);
        Check.row(x, 9, 0, 0);
        Check.due("nobody is not so", x.judge(), 0);
        Check.row(x, 99);
        Check.due("99 is nobody else", x.judge(), 0);
        Check.due("no RIDERS", judged(Check.hill("s00;"), 9), -9);
    }

    private static int judged(FreeWheelDown x, int number) {
        Check.row(x, number);
        return x.judge();
    }

    private static void judgedNoSuchStretch() {
        Check.terms("the first that is not so (no such STRETCH, too)");
        FreeWheelDown x = Check.hill("s00;s00;r11;");
        Check.row(x, 0, 0);
        Check.due("as many", x.judge(), -9);
        Check.row(x, 0, 0, 0);
        Check.due("one more", x.judge(), 2);
        Check.row(x, 0, 0, 9);
        Check.due("one more, nobody", x.judge(), 2);
        x = Check.hill(TEN_ROADS + "r11;");
        Check.row(x, 0, 0, 0, 0, 0, 0, 0, 0, 0, 0);
        Check.due("ten", x.judge(), -9);
        Check.row(x, 0, 0, 0, 0, 0, 0, 0, 0, 0, 0, 9, 9);
        Check.due("twelve", x.judge(), 10);
        Check.due("no STRETCHES", judged(new FreeWheelDown(), 9), 0);
    }

    private static void judgedNone() {
        Check.terms("(no such STRETCH, too); -9.");
        Check.due("no numbers", new FreeWheelDown().judge(), -9);
        Check.due("no numbers", Check.hill("s00;r11;").judge(), -9);
        Check.due("fewer than STRETCHES", judged(Check.hill("s00;s00;r11;"), 0), -9);
    }

    private static void lotsOfCenturies() {
        Check.terms("LOTS with a seed z: n centuries (1 .. 20)");
        FreeWheelDown x = Check.hill("s00;s00;s00;r11;");
        Check.due("lots(0, 7, 0)", x.lots(0, 7, 0), -4);
        Check.due("lots(1, 7, 0)", x.lots(1, 7, 0), 3);
        Check.due("lots(1, 7, 1)", x.lots(1, 7, 1), 1);
        Check.due("lots(20, 7, 0)", x.lots(20, 7, 0), 60);
        Check.due("lots(20, 7, 1)", x.lots(20, 7, 1), 20);
        Check.due("lots(21, 7, 0)", x.lots(21, 7, 0), -6);
        Check.due("no STRETCHES", Check.hill("r11;").lots(20, 7, 0), 0);
        Check.due("no STRETCHES", Check.hill("r11;").lots(20, 7, 1), 20);
    }

    private static void lotsOfAll() {
        Check.terms("then a RIDE: STRETCHES got over by all; how many ARRIVE.");
        FreeWheelDown x = Check.hill("s00;s10;s00;r10;v10;");
        Check.due("FALLEN at 1, one", x.lots(1, 5, 0), 1);
        Check.due("FALLEN at 1, twenty", x.lots(20, 5, 0), 20);
        Check.due("none ARRIVES", x.lots(20, 5, 1), 0);
        x.starts(9);
        Check.due("three, twenty times", x.lots(20, 5, 0), 60);
        Check.due("all ARRIVE", x.lots(20, 5, 1), 20);
    }

    private static void lotsNone() {
        Check.terms("CHANGE of each STRETCH a RIDER by a DRAW below RIDERS plus 1 (that much: none), by numbers");
        agreesWithDraws(Check.hill("s10;s00;s05;r10;r91;v10;c01;c11;c21;"), 3, 1, 20);
        agreesWithDraws(Check.hill("s08;s08;s08;r11;r21;r31;r41;r51;v15;"), 3, 12345, 20);
        agreesWithDraws(Check.hill("s09;r11;v08;"), 1, 99, 20);
    }

    private static void lotsWithoutRiders() {
        Check.terms("(0 without RIDERS.)");
        Check.due("lots(20, 7, 0)", Check.hill("s20;").lots(20, 7, 0), 0);
        Check.due("lots(20, 7, 1)", Check.hill("s20;").lots(20, 7, 1), 0);
        Check.due("no STRETCHES either", new FreeWheelDown().lots(20, 7, 1), 0);
    }

    private static void drawsWrap() {
        Check.terms("DRAWS: z becomes z times 1103515245 plus 12345 (an int, wrapping); a DRAW below n is "
            + "(z without its sign's bit, over 65536, cut) modulo n.");
        int[] seeds = {0, 1, -1, 65536, -65536, Integer.MAX_VALUE, Integer.MIN_VALUE, 1103515245, -12345};
        for (int seed : seeds) {
            agreesWithDraws(Check.hill("s08;s08;s08;r11;r21;r31;r41;r51;v15;"), 3, seed, 1);
            agreesWithDraws(Check.hill("s08;s08;s08;r11;r21;r31;r41;r51;v15;"), 3, seed, 3);
        }
    }

    /** Draws in numbers without an end, so that nothing wraps but where the document says so. */
    private static void agreesWithDraws(FreeWheelDown x, int stretches, int seed, int centuries) {
        BigInteger whole = BigInteger.ONE.shiftLeft(32);
        BigInteger z = BigInteger.valueOf(seed).mod(whole);
        int over = 0;
        int arriving = 0;
        x.image();
        for (int century = 0; century < centuries; century++) {
            for (int s = 0; s < stretches; s++) {
                z = z.multiply(BigInteger.valueOf(1103515245)).add(BigInteger.valueOf(12345)).mod(whole);
                int draw = z.clearBit(31).divide(BigInteger.valueOf(65536)).intValue() % (x.count(1) + 1);
                x.waits(s, draw == x.count(1) ? -1 : draw);
            }
            over += x.ride(0);
            arriving += x.ride(1) == 3 ? 1 : 0;
        }
        x.restore();
        Check.due("lots(" + centuries + ", " + seed + ", 0)", x.lots(centuries, seed, 0), over);
        Check.due("lots(" + centuries + ", " + seed + ", 1)", x.lots(centuries, seed, 1), arriving);
    }
}
