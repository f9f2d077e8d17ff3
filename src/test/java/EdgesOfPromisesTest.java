/** The 48 promises: a test for each sentence of theirs that names a boundary, but the refusals (see RefusalTest). */
public final class EdgesOfPromisesTest {
    private static final String TEN_ROADS = "s00;s00;s00;s00;s00;s00;s00;s00;s00;s00;";

    private EdgesOfPromisesTest() {
    }

    public static void main(String[] args) {
        aNewObject();
        feed();
        hillTakesTheLetters();
        hillCounts();
        hillFault();
        stretchOf();
        riderOf();
        bicycle();
        goesOn();
        holds();
        stretch();
        rider();
        waits();
        starts();
        begins();
        steps();
        back();
        behind();
        ride();
        fastest();
        above();
        smithy();
        who();
        bestStart();
        bestChanges();
        fewest();
        heaviest();
        skillWanted();
        straights();
        whoRode();
        whatKind();
        startTold();
        two();
        wind();
        shares();
        lightest();
        bends();
        swap();
        cut();
        mean();
        brake();
        gain();
        waiting();
        row();
        judge();
        clear();
        lots();
        image();
        restore();
        count();
        countOfRefusals();
        countOfAnother();
        Check.due("the first promise without a test here", Document.firstNotNamed(), 0);
        Check.end();
    }

    private static void aNewObject() {
        Check.promise(1, "No STRETCHES, no RIDERS; it is as BEGIN makes it.");
        FreeWheelDown x = new FreeWheelDown();
        Check.due("STRETCHES", x.count(0), 0);
        Check.due("RIDERS", x.count(1), 0);
        Check.due("stretchOf(0, 0)", x.stretchOf(0, 0), -1);
        Check.due("riderOf(0, 0)", x.riderOf(0, 0), -1);
        Check.bicycle(x, 0, 9, -9, 1);
        x.begins();
        Check.bicycle(x, 0, 9, -9, 1);
    }

    private static void feed() {
        Check.promise(2, "A letter comes: how many there are.");
        FreeWheelDown x = new FreeWheelDown();
        for (int letter = 1; letter <= 96; letter++) {
            Check.due("letter " + letter, x.feed(letter == 96 ? 255 : letter - 1), letter);
        }
        Check.due("count(5)", x.count(5), 96);
        x.hill();
        Check.due("the first again", x.feed(0), 1);
    }

    private static void hillTakesTheLetters() {
        Check.promise(3, "The letters, which are no more then (with a FAULT neither)");
        FreeWheelDown x = new FreeWheelDown();
        for (String text : new String[] {"b;", "x", "b", "s60;", "b".repeat(96)}) {
            Check.tell(x, text);
            x.hill();
            Check.due("letters behind " + text, x.count(5), 0);
        }
        Check.due("hill() of none", x.hill(), -1000);
    }

    private static void hillCounts() {
        Check.promise(3, "are a HILL: how many STATEMENTS");
        // The helper asks whether hill() answers as many as there are ";".
        Check.hill("b;");
        Check.hill("v01;".repeat(24));
        Check.hill("b;".repeat(48));
    }

    private static void hillFault() {
        Check.promise(3, "the FAULT (nothing is counted).");
        FreeWheelDown x = new FreeWheelDown();
        x.hill();
        Check.tell(x, "g61;");
        Check.due("hill()", x.hill(), -2000);
        Check.tell(x, "s00;s");
        Check.due("hill()", x.hill(), -1005);
        for (int what = 11; what <= 16; what++) {
            Check.due("count(" + what + ")", x.count(what), 0);
        }
        Check.due("STRETCHES", x.count(0), 0);
    }

    private static void stretchOf() {
        Check.promise(4, "KIND (what 0), FIGURE (1), CHANGE (2; -9).");
        FreeWheelDown x = Check.hill(TEN_ROADS.substring(4) + "s59;r11;");
        Check.due("stretchOf(9, 0)", x.stretchOf(9, 0), 5);
        Check.due("stretchOf(9, 1)", x.stretchOf(9, 1), 9);
        Check.due("stretchOf(9, 2)", x.stretchOf(9, 2), -9);
        x.waits(9, 0);
        Check.due("stretchOf(9, 2)", x.stretchOf(9, 2), 0);
        Check.due("stretchOf(8, 2)", x.stretchOf(8, 2), -9);
    }

    private static void riderOf() {
        Check.promise(5, "WEIGHT (what 0), SKILL (1).");
        FreeWheelDown x = Check.hill("r10;r11;r11;r11;r98;");
        Check.due("riderOf(0, 0)", x.riderOf(0, 0), 1);
        Check.due("riderOf(0, 1)", x.riderOf(0, 1), 0);
        Check.due("riderOf(4, 0)", x.riderOf(4, 0), 9);
        Check.due("riderOf(4, 1)", x.riderOf(4, 1), 8);
    }

    private static void bicycle() {
        Check.promise(6, "AT (what 0), SPEED (1), RIDER (2; -9), HOW (3).");
        FreeWheelDown x = Check.hill("s00;v42;b;");
        Check.bicycle(x, 0, 42, -9, 1);
        x.rider(1, 1);
        Check.bicycle(x, 0, 42, -9, 1);
        x.begins();
        Check.bicycle(x, 0, 42, 0, 0);
    }

    private static void goesOn() {
        Check.promise(7, "What SPEED v becomes on a STRETCH with a RIDER (below 0: 0).");
        FreeWheelDown x = Check.hill("s09;s19;s29;s39;s49;s59;r10;");
        int[] at0 = {0, 0, 2, 0, 0, 0};
        int[] at9 = {1, 0, 11, 0, 3, 0};
        int[] at99 = {91, 90, 99, 45, 93, 85};
        for (int s = 0; s < 6; s++) {
            Check.due("goesOn(" + s + ", 0, 0)", x.goesOn(s, 0, 0), at0[s]);
            Check.due("goesOn(" + s + ", 0, 9)", x.goesOn(s, 0, 9), at9[s]);
            Check.due("goesOn(" + s + ", 0, 99)", x.goesOn(s, 0, 99), at99[s]);
        }
        Check.due("what he does not hold", x.goesOn(3, 0, 49), 20);
    }

    private static void holds() {
        Check.promise(8, "HOLDS.");
        FreeWheelDown x = Check.hill("s00;s10;s20;s30;s40;s50;r10;r19;");
        int[] least = {99, 10, 99, 5, 99, 99};
        int[] most = {99, 46, 99, 41, 99, 99};
        for (int s = 0; s < 6; s++) {
            Check.due("holds(" + s + ", 0)", x.holds(s, 0), least[s]);
            Check.due("holds(" + s + ", 1)", x.holds(s, 1), most[s]);
        }
    }

    private static void stretch() {
        Check.promise(9, "A STRETCH more: its number.");
        FreeWheelDown x = Check.hill("s00;s00;");
        Check.due("behind a HILL", x.stretch(0, 0), 2);
        x.image();
        Check.due("one more", x.stretch(0, 0), 3);
        x.restore();
        Check.due("RESTORED", x.stretch(5, 9), 3);
        Check.due("its KIND", x.stretchOf(3, 0), 5);
        for (int s = 4; s <= 9; s++) {
            Check.due("up to 9", x.stretch(0, 0), s);
        }
    }

    private static void rider() {
        Check.promise(10, "A RIDER more: the number.");
        FreeWheelDown x = Check.hill("r11;");
        x.image();
        Check.due("behind a HILL", x.rider(1, 0), 1);
        x.restore();
        Check.due("RESTORED", x.rider(9, 9), 1);
        for (int r = 2; r <= 4; r++) {
            Check.due("up to 4", x.rider(1, 0), r);
        }
    }

    private static void waits() {
        Check.promise(11, "A RIDER (-1 nobody) waits there: who did (-9).");
        FreeWheelDown x = Check.hill(TEN_ROADS + "r11;r11;r11;r11;r11;");
        Check.due("nobody did", x.waits(9, 4), -9);
        Check.due("the last did", x.waits(9, 0), 4);
        Check.due("the first did", x.waits(9, -1), 0);
        Check.due("nobody did", x.waits(9, -1), -9);
        Check.due("at another", x.waits(0, 4), -9);
        Check.due("nobody waits there", x.stretchOf(9, 2), -9);
    }

    private static void starts() {
        Check.promise(12, "START becomes v: what it was.");
        FreeWheelDown x = new FreeWheelDown();
        Check.due("9 at first", x.starts(0), 9);
        Check.due("the least", x.starts(99), 0);
        Check.due("the greatest", x.starts(99), 99);
        Check.due("count(2)", x.count(2), 99);
        Check.bicycle(x, 0, 9, -9, 1);
    }

    private static void begins() {
        Check.promise(13, "BEGIN: HOW.");
        FreeWheelDown x = new FreeWheelDown();
        Check.due("it STANDS", x.begins(), 1);
        x.rider(1, 0);
        Check.due("it has ARRIVED", x.begins(), 3);
        x.stretch(1, 0);
        Check.due("it goes", x.begins(), 0);
        x.starts(0);
        Check.due("it goes with SPEED 0", x.begins(), 0);
        x.starts(99);
        x.begins();
        Check.due("it is FALLEN", x.steps(1), 2);
        Check.due("it goes again", x.begins(), 0);
    }

    private static void steps() {
        Check.promise(14, "n STEPS (1 .. 60; what does not go does not): HOW.");
        FreeWheelDown x = Check.hill(TEN_ROADS + "r11;b;");
        Check.due("one", x.steps(1), 0);
        Check.due("AT 1", x.bicycle(0), 1);
        Check.due("eight", x.steps(8), 0);
        Check.due("AT 9", x.bicycle(0), 9);
        Check.due("sixty", x.steps(60), 3);
        Check.due("AT 10", x.bicycle(0), 10);
        Check.due("STEPS", x.count(3), 10);
        Check.due("it does not go", x.steps(1), 3);
        Check.due("STEPS", x.count(3), 10);
        Check.due("without RIDERS", new FreeWheelDown().steps(60), 1);
    }

    private static void back() {
        Check.promise(15, "TAKEN BACK: how many can still be.");
        FreeWheelDown x = new FreeWheelDown();
        for (int v = 0; v < 9; v++) {
            x.starts(v);
        }
        for (int left = 7; left >= 0; left--) {
            Check.due("back()", x.back(), left);
            Check.due("count(7)", x.count(7), left);
        }
    }

    private static void behind() {
        Check.promise(16, "k STEPS on: as bicycle().");
        FreeWheelDown x = Check.hill("s00;s10;r10;r10;c01;v10;");
        int[] now = {0, 9, -9, 1};
        int[] one = {1, 11, 1, 0};
        int[] sixty = {1, 11, 1, 2};
        for (int what = 0; what < 4; what++) {
            Check.due("it STANDS, behind(60, " + what + ")", x.behind(60, what), now[what]);
        }
        x.begins();
        for (int what = 0; what < 4; what++) {
            Check.due("behind(0, " + what + ")", x.behind(0, what), x.bicycle(what));
            Check.due("behind(1, " + what + ")", x.behind(1, what), one[what]);
            Check.due("behind(60, " + what + ")", x.behind(60, what), sixty[what]);
        }
        Check.bicycle(x, 0, 10, 0, 0);
    }

    private static void ride() {
        Check.promise(17, "where it ends (what 0), HOW (1), SPEED (2), RIDERS (3), CHANGES that failed (4).");
        FreeWheelDown x = Check.hill("s00;s10;s00;r10;r10;c01;c10;c21;v10;");
        int[] fallen = {1, 2, 11, 2, 0};
        int[] empty = {0, 1, 9, 0, 0};
        int[] arrived = {3, 3, 8, 2, 0};
        for (int what = 0; what < 5; what++) {
            Check.due("FALLEN, ride(" + what + ")", x.ride(what), fallen[what]);
            Check.due("nothing there, ride(" + what + ")", new FreeWheelDown().ride(what), empty[what]);
        }
        x.starts(6);
        for (int what = 0; what < 5; what++) {
            Check.due("ARRIVED, ride(" + what + ")", x.ride(what), arrived[what]);
        }
    }

    private static void fastest() {
        Check.promise(18, "FASTEST (what 0; -9), the STRETCH (1; -9).");
        FreeWheelDown x = new FreeWheelDown();
        Check.due("fastest(0)", x.fastest(0), -9);
        Check.due("fastest(1)", x.fastest(1), -9);
        x.rider(1, 1);
        Check.due("fastest(0)", x.fastest(0), -9);
        Check.due("fastest(1)", x.fastest(1), -9);
        x.stretch(0, 0);
        Check.due("fastest(0)", x.fastest(0), 9);
        Check.due("fastest(1)", x.fastest(1), 0);
    }

    private static void above() {
        Check.promise(19, "ABOVE; -9.");
        FreeWheelDown x = Check.hill("s20;s00;r10;v97;");
        Check.due("above(97)", x.above(97), 0);
        Check.due("above(98)", x.above(98), 1);
        Check.due("above(99)", x.above(99), 1);
        x.starts(96);
        Check.due("above(98)", x.above(98), 1);
        Check.due("above(99)", x.above(99), -9);
        Check.due("nothing there", new FreeWheelDown().above(0), -9);
    }

    private static void smithy() {
        Check.promise(20, "SMITHY; -9.");
        Check.due("nothing there", new FreeWheelDown().smithy(), -9);
        Check.due("the first stretch", Check.hill("s30;s30;r10;v05;").smithy(), 0);
        Check.due("only the later one is got over", Check.hill("s00;s30;r10;v04;").smithy(), 1);
        Check.due("none is got over", Check.hill("s30;r10;v06;").smithy(), -9);
    }

    private static void who() {
        Check.promise(21, "WHO; -9.");
        FreeWheelDown x = Check.hill("s00;s10;s00;r10;r10;c01;v10;");
        Check.due("who(0)", x.who(0), 1);
        Check.due("who(1)", x.who(1), -9);
        Check.due("who(2)", x.who(2), -9);
        Check.due("without RIDERS", Check.hill("s00;").who(0), -9);
    }

    private static void bestStart() {
        Check.promise(22, "BEST START (what 0), where it ends (1), ARRIVES (2; -9).");
        FreeWheelDown x = Check.hill("s10;s19;r10;");
        Check.due("bestStart(0)", x.bestStart(0), 10);
        Check.due("bestStart(1)", x.bestStart(1), 2);
        Check.due("bestStart(2)", x.bestStart(2), 10);
        x = Check.hill("s10;s19;s10;s10;s10;r10;");
        x.starts(50);
        Check.due("bestStart(0)", x.bestStart(0), 10);
        x.stretch(1, 1);
        Check.due("bestStart(0)", x.bestStart(0), 10);
        Check.due("bestStart(1)", x.bestStart(1), 5);
        Check.due("bestStart(2)", x.bestStart(2), -9);
        Check.due("START stays", x.count(2), 50);
        Check.due("nothing there", new FreeWheelDown().bestStart(2), -9);
    }

    private static void bestChanges() {
        Check.promise(23, "BEST CHANGES: 100 times the first's .. (what 0), where it ends (1).");
        FreeWheelDown x = Check.hill(TEN_ROADS.substring(4) + "s09;r10;r90;v00;");
        Check.due("all ARRIVE", x.bestChanges(9, 8, 7, 0), 999);
        x = Check.hill("s09;s09;s10;r10;r90;r11;v14;c20;");
        Check.due("bestChanges(0, 1, 2, 0)", x.bestChanges(0, 1, 2, 0), 919);
        Check.due("bestChanges(0, 1, 2, 1)", x.bestChanges(0, 1, 2, 1), 3);
        Check.due("bestChanges(2, 1, 0, 0)", x.bestChanges(2, 1, 0, 0), 901);
        Check.due("the CHANGES stay", x.stretchOf(2, 2), 0);
        Check.due("the CHANGES stay", x.count(4), 1);
    }

    private static void fewest() {
        Check.promise(24, "FEWEST (what 0), SOLO (1), bits.");
        FreeWheelDown x = Check.hill(TEN_ROADS.substring(4) + "s19;r10;r19;c91;v10;");
        Check.due("the last STRETCH", x.fewest(0), 512);
        Check.due("both RIDERS", x.fewest(1), 2);
        x.waits(9, -1);
        Check.due("none", x.fewest(0), 0);
        Check.due("nothing there", new FreeWheelDown().fewest(0), 0);
        Check.due("nothing there", new FreeWheelDown().fewest(1), 0);
    }

    private static void heaviest() {
        Check.promise(25, "HEAVIEST; -9 (without RIDERS, too).");
        Check.due("9", Check.hill("s00;r10;").heaviest(), 9);
        Check.due("1", Check.hill("s00;s10;r90;v09;").heaviest(), 1);
        Check.due("none", Check.hill("s00;s10;r90;v10;").heaviest(), -9);
        Check.due("without RIDERS", Check.hill("s00;").heaviest(), -9);
        Check.due("nothing there", new FreeWheelDown().heaviest(), -9);
    }

    private static void skillWanted() {
        Check.promise(26, "SKILL WANTED; -9.");
        Check.due("0", Check.hill("s10;r19;v10;").skillWanted(0), 0);
        Check.due("9", Check.hill("s30;r10;v41;").skillWanted(0), 9);
        Check.due("none", Check.hill("s30;r19;v42;").skillWanted(0), -9);
        Check.due("who does not ride", Check.hill("s10;r10;r10;v11;").skillWanted(1), -9);
        Check.due("who does not ride", Check.hill("s10;r10;r19;v10;").skillWanted(1), 0);
    }

    private static void straights() {
        Check.promise(27, "STRAIGHTS: how many (what 0), the first (1; -9), WED (2).");
        FreeWheelDown x = new FreeWheelDown();
        Check.due("straights(0)", x.straights(0), 0);
        Check.due("straights(1)", x.straights(1), -9);
        Check.due("straights(2)", x.straights(2), 0);
        x = Check.hill("s40;r10;r10;c01;v20;");
        Check.due("straights(0)", x.straights(0), 1);
        Check.due("straights(1)", x.straights(1), 0);
        Check.due("straights(2)", x.straights(2), 1);
    }

    private static void whoRode() {
        Check.promise(28, "WHO RODE by the ROW (it stays): WEIGHTS (what 0), SKILLS (1), bits.");
        FreeWheelDown x = Check.hill("s00;s00;r55;v10;");
        Check.due("none of the ROW", x.whoRode(0), 1022);
        Check.due("none of the ROW", x.whoRode(1), 1023);
        Check.row(x, 10, 19);
        Check.due("whoRode(0)", x.whoRode(0), 512);
        Check.due("whoRode(1)", x.whoRode(1), 0);
        Check.due("it stays", x.count(6), 2);
        Check.due("WEIGHT stays", x.riderOf(0, 0), 5);
        Check.due("SKILL stays", x.riderOf(0, 1), 5);
        x = Check.hill("r55;");
        Check.due("no STRETCHES", x.whoRode(0), 1022);
        Check.due("no STRETCHES", x.whoRode(1), 1023);
    }

    private static void whatKind() {
        Check.promise(29, "WHAT KIND by the ROW (it stays): KINDS (what 0), FIGURES (1), bits.");
        FreeWheelDown x = Check.hill("s15;s00;r10;v10;");
        Check.due("none of the ROW", x.whatKind(1, 0), 63);
        Check.due("none of the ROW", x.whatKind(1, 1), 1023);
        Check.row(x, 10, 1);
        Check.due("whatKind(0, 0)", x.whatKind(0, 0), 0);
        Check.due("whatKind(0, 1)", x.whatKind(0, 1), 512);
        Check.row(x, 10, 12);
        Check.due("whatKind(0, 0)", x.whatKind(0, 0), 4);
        Check.due("it stays", x.count(6), 2);
        Check.due("KIND stays", x.stretchOf(0, 0), 1);
        Check.due("FIGURE stays", x.stretchOf(0, 1), 5);
    }

    private static void startTold() {
        Check.promise(30, "START TOLD by the ROW (it stays): how many (what 0), the least (1; -9).");
        FreeWheelDown x = Check.hill("s00;s00;r20;");
        Check.row(x, 97, 99);
        Check.due("startTold(0)", x.startTold(0), 1);
        Check.due("startTold(1)", x.startTold(1), 97);
        Check.row(x, 97, 98);
        Check.due("startTold(0)", x.startTold(0), 0);
        Check.due("startTold(1)", x.startTold(1), -9);
        Check.due("it stays", x.count(6), 2);
        Check.due("START stays", x.count(2), 9);
        Check.due("nothing there", new FreeWheelDown().startTold(0), 100);
        Check.due("nothing there", new FreeWheelDown().startTold(1), 0);
    }

    private static void two() {
        Check.promise(31, "TWO; -9.");
        FreeWheelDown x = Check.hill("s10;s00;r10;v11;");
        Check.due("two(0, 0)", x.two(0, 0), 10);
        Check.due("two(1, 0)", x.two(1, 0), -9);
        x.starts(10);
        Check.due("two(1, 0)", x.two(1, 0), 0);
        Check.due("nobody waits there still", x.count(4), 0);
    }

    private static void wind() {
        Check.promise(32, "WIND; part 0 above, 1 below the line.");
        FreeWheelDown x = Check.hill("s01;r10;v05;");
        Check.due("wind(0, 20, 0)", x.wind(0, 20, 0), 1);
        Check.due("wind(0, 20, 1)", x.wind(0, 20, 1), 1);
        Check.due("wind(1, 20, 0)", x.wind(1, 20, 0), 19);
        Check.due("wind(1, 20, 1)", x.wind(1, 20, 1), 20);
        x.starts(0);
        Check.due("wind(1, 20, 0)", x.wind(1, 20, 0), 0);
        Check.due("wind(1, 20, 1)", x.wind(1, 20, 1), 1);
        Check.due("nothing there", new FreeWheelDown().wind(0, 2, 0), 0);
        Check.due("nothing there", new FreeWheelDown().wind(0, 2, 1), 1);
    }

    private static void shares() {
        Check.promise(33, "SHARES: of one, the most less the least (rider -1; 0 without).");
        Check.due("without", new FreeWheelDown().shares(-1), 0);
        Check.due("without STRETCHES", Check.hill("r11;").shares(0), 0);
        FreeWheelDown x = Check.hill(TEN_ROADS + "r10;r10;r10;r10;r10;c14;v00;");
        Check.due("shares(0)", x.shares(0), 1);
        Check.due("shares(3)", x.shares(3), 0);
        Check.due("shares(4)", x.shares(4), 9);
        Check.due("shares(-1)", x.shares(-1), 9);
    }

    private static void lightest() {
        Check.promise(34, "LIGHTEST (what 0), SKILLED (1); -9.");
        Check.due("lightest(0)", new FreeWheelDown().lightest(0), -9);
        Check.due("lightest(1)", new FreeWheelDown().lightest(1), -9);
        FreeWheelDown x = Check.hill("r90;r18;r19;r19;r18;");
        Check.due("lightest(0)", x.lightest(0), 1);
        Check.due("lightest(1)", x.lightest(1), 2);
    }

    private static void bends() {
        Check.promise(35, "BENDS.");
        FreeWheelDown x = new FreeWheelDown();
        Check.due("none there", x.bends(), 0);
        x.stretch(3, 9);
        Check.due("a SMITHY", x.bends(), 1);
        x.stretch(1, 0);
        Check.due("a BEND", x.bends(), 2);
        x.stretch(5, 0);
        Check.due("a LEVEL", x.bends(), 2);
    }

    private static void swap() {
        Check.promise(36, "SWAP; -9.");
        Check.due("nothing there", new FreeWheelDown().swap(), -9);
        FreeWheelDown x = Check.hill("s10;s09;r10;v15;");
        Check.due("swap()", x.swap(), 1);
        x.starts(10);
        Check.due("as far now", x.swap(), -9);
        Check.due("KIND stays", x.stretchOf(0, 0), 1);
        Check.due("FIGURE stays", x.stretchOf(1, 1), 9);
    }

    private static void cut() {
        Check.promise(37, "CUT; -9.");
        Check.due("nothing there", new FreeWheelDown().cut(), -9);
        FreeWheelDown x = Check.hill("s10;s02;r10;v11;");
        Check.due("cut()", x.cut(), 0);
        x.starts(10);
        Check.due("it ARRIVES now", x.cut(), -9);
        Check.due("STRETCHES", x.count(0), 2);
    }

    private static void mean() {
        Check.promise(38, "MEAN SPEED; part likewise.");
        Check.due("nothing there", new FreeWheelDown().mean(0), 0);
        Check.due("nothing there", new FreeWheelDown().mean(1), 1);
        FreeWheelDown x = Check.hill("s00;s00;r10;v10;");
        Check.due("mean(0)", x.mean(0), 21);
        Check.due("mean(1)", x.mean(1), 2);
    }

    private static void brake() {
        Check.promise(39, "BRAKE; -9.");
        Check.due("nothing there", new FreeWheelDown().brake(), -9);
        FreeWheelDown x = Check.hill("s10;r10;v11;");
        Check.due("brake()", x.brake(), 0);
        x.starts(10);
        Check.due("it ARRIVES now", x.brake(), -9);
        Check.due("START stays", x.count(2), 10);
    }

    private static void gain() {
        Check.promise(40, "GAIN.");
        FreeWheelDown x = Check.hill("s59;s20;r90;v99;");
        Check.due("below 0", x.gain(0), -14);
        Check.due("99 at most", x.gain(1), 14);
        x.starts(14);
        Check.due("not got over", x.gain(0), 0);
        Check.due("does not come there", x.gain(1), 0);
    }

    private static void waiting() {
        Check.promise(41, "WAITING (what 0), IDLE (1), bits, LATE (2; -9).");
        FreeWheelDown x = new FreeWheelDown();
        Check.due("waiting(0)", x.waiting(0), 0);
        Check.due("waiting(1)", x.waiting(1), 0);
        Check.due("waiting(2)", x.waiting(2), -9);
        x = Check.hill("s00;r10;r10;r10;r10;r10;c04;v20;");
        Check.due("waiting(0)", x.waiting(0), 16);
        Check.due("waiting(1)", x.waiting(1), 15);
        Check.due("waiting(2)", x.waiting(2), 0);
        x.starts(21);
        Check.due("waiting(0)", x.waiting(0), 16);
        Check.due("waiting(1)", x.waiting(1), 30);
        Check.due("waiting(2)", x.waiting(2), -9);
    }

    private static void row() {
        Check.promise(42, "A number more of the ROW: how many.");
        FreeWheelDown x = new FreeWheelDown();
        for (int many = 1; many <= 12; many++) {
            Check.due("row(" + many + ")", x.row(many == 12 ? 99 : 0), many);
        }
        Check.due("count(6)", x.count(6), 12);
    }

    private static void judge() {
        Check.promise(43, "JUDGED; -9 (whichever it answers, the ROW has none then).");
        FreeWheelDown x = Check.hill("s00;r11;");
        x.row(0);
        Check.due("all so", x.judge(), -9);
        Check.due("count(6)", x.count(6), 0);
        x.row(1);
        Check.due("the first is not", x.judge(), 0);
        Check.due("count(6)", x.count(6), 0);
        x.row(0);
        x.row(9);
        Check.due("no such STRETCH", x.judge(), 1);
        Check.due("count(6)", x.count(6), 0);
        Check.due("no numbers", x.judge(), -9);
    }

    private static void clear() {
        Check.promise(44, "The ROW has none then: how many it had.");
        FreeWheelDown x = new FreeWheelDown();
        Check.due("none", x.clear(), 0);
        for (int many = 0; many < 12; many++) {
            x.row(99);
        }
        Check.due("twelve", x.clear(), 12);
        Check.due("count(6)", x.count(6), 0);
        Check.due("none", x.clear(), 0);
        Check.due("room again", x.row(0), 1);
    }

    private static void lots() {
        Check.promise(45, "LOTS: STRETCHES (what 0), how many ARRIVE (1).");
        FreeWheelDown x = Check.hill("s00;s19;r10;v05;");
        Check.due("lots(20, 3, 0)", x.lots(20, 3, 0), 20);
        Check.due("lots(20, 3, 1)", x.lots(20, 3, 1), 0);
        x.starts(9);
        Check.due("lots(20, 3, 0)", x.lots(20, 3, 0), 40);
        Check.due("lots(20, 3, 1)", x.lots(20, 3, 1), 20);
        Check.due("no CHANGES are made", x.count(4), 0);
        Check.due("without RIDERS", Check.hill("s00;").lots(20, 3, 0), 0);
    }

    private static void image() {
        Check.promise(46, "THE IMAGE is taken: STEPS.");
        FreeWheelDown x = new FreeWheelDown();
        Check.due("nothing there", x.image(), 0);
        x = Check.hill("s00;s00;r11;b;g01;");
        Check.due("one", x.image(), 1);
        x.steps(1);
        Check.due("two", x.image(), 2);
        x.begins();
        Check.due("the later one", x.restore(), 2);
        Check.bicycle(x, 2, 11, 0, 3);
    }

    private static void restore() {
        Check.promise(47, "It is RESTORED: STEPS.");
        FreeWheelDown x = new FreeWheelDown();
        x.image();
        Check.tell(x, TEN_ROADS + "r11;v42;b;g01;");
        x.hill();
        Check.due("to nothing", x.restore(), 0);
        Check.due("STRETCHES", x.count(0), 0);
        Check.due("RIDERS", x.count(1), 0);
        Check.due("START", x.count(2), 9);
        Check.bicycle(x, 0, 9, -9, 1);
        Check.due("once more", x.restore(), 0);
    }

    private static void count() {
        Check.promise(48, "0 STRETCHES, 1 RIDERS, 2 START, 3 STEPS, 4 CHANGES, 5 letters, 6 in the ROW, "
            + "7 what can be TAKEN BACK");
        FreeWheelDown x = Check.hill("s00;s00;s00;r11;r11;c00;c20;v42;b;g02;");
        Check.tell(x, "s00;b");
        Check.row(x, 1, 2, 3, 4, 5, 6);
        x.begins();
        int[] due = {3, 2, 42, 2, 2, 5, 6, 1};
        for (int what = 0; what < due.length; what++) {
            Check.due("count(" + what + ")", x.count(what), due[what]);
        }
    }

    private static void countOfRefusals() {
        Check.promise(48, "11 .. 16 REFUSALS -1 .. -6.");
        FreeWheelDown x = new FreeWheelDown();
        x.who(0);
        x.ride(5);
        x.ride(-1);
        for (int i = 0; i < 3; i++) {
            x.back();
        }
        for (int i = 0; i < 4; i++) {
            x.row(-1);
        }
        for (int i = 0; i < 6; i++) {
            x.row(100);
        }
        int[] due = {1, 2, 3, 4, 0, 6};
        for (int i = 0; i < due.length; i++) {
            Check.due("count(" + (11 + i) + ")", x.count(11 + i), due[i]);
        }
    }

    private static void countOfAnother() {
        Check.promise(48, "-9 for another what.");
        FreeWheelDown x = new FreeWheelDown();
        for (int what : new int[] {Integer.MIN_VALUE, -1, 8, 9, 10, 17, 18, Integer.MAX_VALUE}) {
            Check.due("count(" + what + ")", x.count(what), -9);
        }
        for (int what = 11; what <= 16; what++) {
            Check.due("it is no refusal", x.count(what), 0);
        }
    }
}
