/** Promises 22 to 26, 31, 32, 36, 37, 39, 45: rides as they would be. */
public final class WouldBeTest {
    private static final String STRETCHES = "s14;s20;s33;s41;s42;s52;s05;";
    private static final String RIDERS = "r55;r81;r29;";

    private WouldBeTest() {
    }

    public static void main(String[] args) {
        bestStart();
        bestChanges();
        fewest();
        heaviest();
        skillWanted();
        two();
        wind();
        swap();
        cut();
        brake();
        lots();
        Check.end();
    }

    private static FreeWheelDown fair() {
        return Check.hill(STRETCHES + RIDERS + "c52;c30;v18;");
    }

    private static FreeWheelDown foul() {
        return Check.hill(STRETCHES + RIDERS + "c11;c52;c30;v20;");
    }

    private static void bestStart(String when, FreeWheelDown x, int best, int end, int arrives) {
        Check.due(when + ": bestStart(0)", x.bestStart(0), best);
        Check.due(when + ": bestStart(1)", x.bestStart(1), end);
        Check.due(when + ": bestStart(2)", x.bestStart(2), arrives);
    }

    private static void bestStart() {
        bestStart("fair", fair(), 5, 7, 5);
        bestStart("foul", foul(), 5, 2, -9);
        bestStart("dips need none", Check.hill("s20;r11;"), 0, 1, 0);
        bestStart("all the speed there is", Check.hill("s59;s59;s59;s59;s59;s59;s59;r11;"), 99, 7, 99);
        bestStart("not enough", Check.hill("s59;s59;s59;s59;s59;s59;s58;s15;r19;"), 98, 7, -9);
        bestStart("no stretches", Check.hill("r11;"), 0, 0, 0);
        bestStart("no riders", Check.hill("s00;"), 0, 0, -9);
        FreeWheelDown x = fair();
        x.ride(0);
        x.waits(1, 1);
        Check.due("by the changes as they are", x.bestStart(2), -9);
        x.back();
        Check.due("by the changes as they are", x.bestStart(2), 5);
        x.bestStart(0);
        Check.due("start stays", x.count(2), 18);
    }

    private static void bestChanges() {
        FreeWheelDown x = fair();
        x.starts(20);
        Check.due("as it is, it falls", x.ride(0), 2);
        Check.due("bestChanges(1, 2, 3, 0)", x.bestChanges(1, 2, 3, 0), 929);
        Check.due("bestChanges(1, 2, 3, 1)", x.bestChanges(1, 2, 3, 1), 7);
        Check.due("bestChanges(3, 2, 1, 0)", x.bestChanges(3, 2, 1, 0), 992);
        Check.due("bestChanges(2, 3, 1, 0)", x.bestChanges(2, 3, 1, 0), 992);
        Check.due("bestChanges(0, 5, 4, 0)", x.bestChanges(0, 5, 4, 0), 299);
        Check.due("nothing helps", x.bestChanges(4, 5, 6, 0), 999);
        Check.due("nothing helps", x.bestChanges(4, 5, 6, 1), 2);
        Check.due("who waits stays", x.stretchOf(3, 2), 0);
        x = Check.hill("s00;s00;s00;");
        Check.due("without riders", x.bestChanges(0, 1, 2, 0), 999);
        Check.due("without riders", x.bestChanges(0, 1, 2, 1), 0);
        // The others would stand at the first stretch.
        x = Check.hill("s09;s09;s09;r11;r11;r11;r11;r91;c00;c10;c20;v01;");
        Check.due("the last rider at once", x.bestChanges(0, 1, 2, 0), 499);
        Check.due("the last rider at once", x.bestChanges(2, 1, 0, 0), 994);
        Check.due("the last rider at once", x.bestChanges(0, 1, 2, 1), 3);
    }

    private static void fewest() {
        FreeWheelDown x = fair();
        Check.due("it arrives without changes", x.fewest(0), 0);
        Check.due("fair: fewest(1)", x.fewest(1), Check.bits(0, 2));
        x.starts(20);
        x.waits(2, 2);
        Check.due("now it arrives", x.ride(0), 7);
        Check.due("that one alone", x.fewest(0), Check.bits(2));
        Check.due("none but the third rider", x.fewest(1), Check.bits(2));
        Check.due("who waits stays", x.count(4), 3);
        x = foul();
        Check.due("foul: fewest(1)", x.fewest(1), Check.bits(0, 2));
        x.starts(18);
        Check.due("farther is as far, too", x.ride(0), 2);
        Check.due("farther is as far, too", x.fewest(0), 0);
        // Rider 1 is wanted at the first stretch; without rider 2 at the second the ride goes farther.
        x = Check.hill("s10;s00;s10;s00;r10;r19;r90;c01;c12;v15;");
        Check.due("farther with fewer", x.ride(0), 2);
        Check.due("farther with fewer", x.fewest(0), Check.bits(0));
        // Of several the least: either change brings rider 1, who holds.
        x = Check.hill("s00;s00;s10;r10;r19;c01;c11;v15;");
        Check.due("of several the least", x.fewest(0), Check.bits(0));
        x.waits(0, 0);
        Check.due("the other one", x.fewest(0), Check.bits(1));
        x = Check.hill("s00;s00;");
        Check.due("without riders", x.fewest(0), 0);
        Check.due("without riders", x.fewest(1), 0);
        x = Check.hill("r11;r11;");
        Check.due("without stretches", x.fewest(0), 0);
        Check.due("without stretches", x.fewest(1), Check.bits(0, 1));
        // Two are wanted: rider 1 for the bend, rider 2 for the roads behind it.
        x = Check.hill("s10;s09;s09;s09;r10;r19;r90;c01;c12;c22;v11;");
        Check.due("two are wanted", x.fewest(0), Check.bits(0, 1));
    }

    private static void heaviest() {
        Check.due("fair", fair().heaviest(), 5);
        Check.due("foul", foul().heaviest(), -9);
        Check.due("any", Check.hill("s20;r11;").heaviest(), 9);
        Check.due("one", Check.hill("s00;s10;r10;v09;").heaviest(), 1);
        Check.due("no stretches", Check.hill("r11;").heaviest(), 9);
        Check.due("no riders", Check.hill("s20;").heaviest(), -9);
        FreeWheelDown x = fair();
        x.heaviest();
        Check.due("the weight stays", x.riderOf(0, 0), 5);
    }

    private static void skillWanted() {
        FreeWheelDown x = fair();
        Check.due("fair: skillWanted(0)", x.skillWanted(0), 5);
        Check.due("fair: skillWanted(1)", x.skillWanted(1), 0);
        Check.due("fair: skillWanted(2)", x.skillWanted(2), 0);
        x = foul();
        Check.due("foul: skillWanted(0)", x.skillWanted(0), -9);
        Check.due("foul: skillWanted(1)", x.skillWanted(1), 7);
        Check.due("the skill stays", x.riderOf(1, 1), 1);
        Check.due("nine", Check.hill("s10;r10;v46;").skillWanted(0), 9);
        Check.due("ten", Check.hill("s10;r10;v47;").skillWanted(0), -9);
    }

    private static void two() {
        FreeWheelDown x = fair();
        x.starts(20);
        Check.due("the third rider holds anyway", x.two(2, 2), 0);
        Check.due("the second falls anyway", x.two(2, 1), 0);
        Check.due("he brakes", x.two(2, 0), 10);
        Check.due("a ride does not come there", x.two(3, 0), -9);
        Check.due("who waits stays", x.stretchOf(2, 2), -9);
        x = Check.hill("s10;s00;s00;s00;s00;r10;r19;v40;");
        Check.due("the other runs", x.two(0, 1), 1);
        x = Check.hill("s10;r10;r19;v40;");
        Check.due("one stretch is not worth it", x.two(0, 1), 0);
        x = Check.hill("s10;s00;s00;s00;s00;r10;r19;v90;");
        Check.due("one alone can do nothing", x.two(0, 1), 0);
        Check.due("no such stretch there", x.two(1, 0), -9);
        String roads = "s09;".repeat(10);
        x = Check.hill(roads + "r10;r90;v30;");
        Check.due("he who runs gets up at 10 more", x.two(0, 1), 1);
        x.starts(31);
        Check.due("not at 11 more, so the first brakes", x.two(0, 1), 10);
        x.starts(20);
        Check.due("he gets up anyway", x.two(0, 1), 0);
        x = Check.hill("s59;s10;" + "s09;".repeat(8) + "r14;r92;v52;");
        Check.due("both", x.two(0, 1), 11);
        Check.due("who waits stays", x.stretchOf(0, 2), -9);
        Check.due("the start stays", x.count(2), 52);
    }

    private static void wind(FreeWheelDown x, int n, int t, long above, long below) {
        Check.due("wind(" + n + ", " + t + ", 0)", x.wind(n, t, 0), above);
        Check.due("wind(" + n + ", " + t + ", 1)", x.wind(n, t, 1), below);
    }

    private static void wind() {
        FreeWheelDown x = Check.hill("s01;s01;s01;r10;v05;");
        wind(x, 0, 2, 1, 1);
        wind(x, 1, 3, 2, 3);
        wind(x, 2, 3, 4, 9);
        wind(x, 1, 20, 19, 20);
        x.starts(6);
        wind(x, 1, 3, 1, 1);
        wind(x, 2, 3, 8, 9);
        wind(x, 3, 3, 20, 27);
        wind(x, 3, 2, 1, 2);
        x.starts(0);
        wind(x, 3, 2, 0, 1);
        wind(x, 0, 2, 0, 1);
        // Without wind it is too fast for the bend.
        wind(Check.hill("s01;s10;r10;v14;"), 1, 7, 1, 7);
        wind(Check.hill("s01;s10;r10;v14;"), 2, 7, 1, 7);
        // Behind 99 at most the wind still takes 5.
        wind(Check.hill("s20;s10;r99;c10;v99;"), 1, 2, 0, 1);
        wind(Check.hill("r11;"), 0, 2, 1, 1);
        wind(Check.hill("s00;"), 1, 2, 0, 1);
        // Eight stretches, each wind takes what the next but seven would need.
        x = Check.hill("s01;s01;s01;s01;s01;s01;s01;s01;r10;v36;");
        wind(x, 8, 20, 25599999999L, 25600000000L);
        x.starts(5);
        wind(x, 8, 20, 16983563041L, 25600000000L);
    }

    private static void swap() {
        Check.due("the first two", Check.hill("s10;s09;r10;v15;").swap(), 1);
        Check.due("it arrives now", Check.hill("s09;s10;r10;v15;").swap(), -9);
        Check.due("the farther one", Check.hill("s10;s05;s09;r10;v15;").swap(), 2);
        Check.due("not the way to the end", Check.hill("s10;s09;s09;r10;v15;").swap(), 1);
        Check.due("who waits stays", Check.hill("s30;s09;r90;r19;c11;v06;").swap(), 1);
        Check.due("who waits stays", Check.hill("s30;s09;r90;r19;c01;v06;").swap(), -9);
        Check.due("the last two", Check.hill("s01;s01;s10;s09;r10;v15;").swap(), 3);
        Check.due("of several the first", Check.hill("s01;s01;s01;s10;s09;s09;r10;v15;").swap(), 4);
        Check.due("one alone", Check.hill("s10;r10;v15;").swap(), -9);
        Check.due("no riders", Check.hill("s10;s09;").swap(), -9);
        FreeWheelDown x = Check.hill("s10;s09;r10;v15;");
        x.swap();
        Check.due("nothing is changed", x.stretchOf(0, 0), 1);
    }

    private static void cut() {
        Check.due("the bend", Check.hill("s10;s09;r10;v15;").cut(), 0);
        Check.due("the last one", Check.hill("s01;s01;s10;r10;v15;").cut(), 2);
        Check.due("it arrives now", Check.hill("s09;s10;r10;v15;").cut(), -9);
        Check.due("two would have to", Check.hill("s10;s10;r10;v15;").cut(), -9);
        Check.due("who waits is left out, too", Check.hill("s00;s10;r19;r90;c01;v15;").cut(), 0);
        Check.due("who waits behind it comes along", Check.hill("s10;s00;s10;r10;r19;c11;v15;").cut(), 0);
        Check.due("the only one", Check.hill("s10;r10;v15;").cut(), 0);
        Check.due("of several the least", Check.hill("s09;s09;r10;v10;").cut(), 0);
        Check.due("no riders", Check.hill("s10;").cut(), -9);
        FreeWheelDown x = Check.hill("s10;s09;r10;v15;");
        x.cut();
        Check.due("nothing is left out", x.count(0), 2);
    }

    private static void brake() {
        Check.due("at the bend", Check.hill("s10;r10;v15;").brake(), 0);
        Check.due("of several the least", Check.hill("s01;s01;s10;r10;v15;").brake(), 0);
        Check.due("it arrives now", Check.hill("s10;r10;v10;").brake(), -9);
        Check.due("half, cut", Check.hill("s10;r10;v21;").brake(), 0);
        Check.due("half is too fast, too", Check.hill("s10;r10;v22;").brake(), -9);
        Check.due("who waits gets up at half", Check.hill("s10;r10;r19;c01;v77;").brake(), 0);
        Check.due("who waits is too slow", Check.hill("s10;r10;r19;c01;v78;").brake(), -9);
        Check.due("not where it would stand, nor ahead of the dip", Check.hill("s09;s29;s10;r50;v09;").brake(), 2);
        Check.due("the farthest", Check.hill("s01;s39;s01;s10;r19;v55;").brake(), 0);
        Check.due("no riders", Check.hill("s10;").brake(), -9);
    }

    private static void lots() {
        FreeWheelDown x = Check.hill("s10;s01;r10;r19;v15;");
        int z = 77;
        int over = 0;
        int arriving = 0;
        for (int century = 1; century <= 20; century++) {
            z = z * 1103515245 + 12345;
            int first = (z >>> 16 & 0x7fff) % 3;
            z = z * 1103515245 + 12345;
            int second = (z >>> 16 & 0x7fff) % 3;
            x.waits(0, first == 2 ? -1 : first);
            x.waits(1, second == 2 ? -1 : second);
            over += x.ride(0);
            arriving += x.ride(1) == 3 ? 1 : 0;
            Check.due("lots(" + century + ", 77, 0)", x.lots(century, 77, 0), over);
            Check.due("lots(" + century + ", 77, 1)", x.lots(century, 77, 1), arriving);
        }
        Check.holds("some arrive", arriving > 0 && arriving < 20);
        Check.due("without riders", Check.hill("s00;").lots(20, 1, 0), 0);
        Check.due("without riders", Check.hill("s00;").lots(20, 1, 1), 0);
        Check.due("without stretches", Check.hill("r11;").lots(20, 1, 0), 0);
        Check.due("without stretches", Check.hill("r11;").lots(20, 1, 1), 20);
    }
}
