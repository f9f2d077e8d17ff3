/** Promises 28 to 30 and 42 to 44: the row, and what is told by it. */
public final class RowTest {
    private static final String FAIR = "s14;s20;s33;s41;s42;s52;s05;r55;r81;r29;c52;c30;v18;";
    private static final int ALL_FIGURES = 1023;

    private RowTest() {
    }

    public static void main(String[] args) {
        theRow();
        whoRode();
        whatKind();
        startTold();
        judged();
        theRowStays();
        Check.end();
    }

    private static void theRow() {
        FreeWheelDown x = new FreeWheelDown();
        Check.due("clear() of none", x.clear(), 0);
        Check.due("row(0)", x.row(0), 1);
        Check.due("row(99)", x.row(99), 2);
        Check.due("row(-1)", x.row(-1), -4);
        Check.due("row(100)", x.row(100), -6);
        for (int i = 3; i <= 12; i++) {
            Check.due("row(" + i + ")", x.row(i), i);
        }
        Check.due("a 13th", x.row(1), -6);
        Check.due("a 13th below 0", x.row(-1), -4);
        Check.due("count(6)", x.count(6), 12);
        Check.due("clear()", x.clear(), 12);
        Check.due("count(6)", x.count(6), 0);
        Check.due("row again", x.row(5), 1);
    }

    private static void whoRode(FreeWheelDown x, int weights, int skills) {
        Check.due("whoRode(0)", x.whoRode(0), weights);
        Check.due("whoRode(1)", x.whoRode(1), skills);
    }

    /** Speeds: 18, 14, 24, 10, 16, 21, 14. */
    private static void whoRode() {
        FreeWheelDown x = Check.hill(FAIR);
        whoRode(x, 1022, ALL_FIGURES);
        Check.row(x, 18);
        whoRode(x, 1022, ALL_FIGURES);
        Check.row(x, 17);
        whoRode(x, 0, 0);
        Check.row(x, 18, 14);
        whoRode(x, 1022, ALL_FIGURES - 3);
        Check.row(x, 18, 0);
        whoRode(x, 0, 3);
        Check.row(x, 18, 14, 24);
        whoRode(x, Check.bits(5), ALL_FIGURES - 3);
        Check.row(x, 18, 14, 24, 10, 16, 21, 14);
        whoRode(x, Check.bits(5), ALL_FIGURES - 31);
        Check.row(x, 18, 14, 24, 0);
        whoRode(x, 0, Check.bits(2, 3, 4));
        Check.row(x, 18, 14, 24, 10, 16, 21, 14, 11);
        whoRode(x, -3, -3);
        x = new FreeWheelDown();
        Check.due("no riders", x.whoRode(0), -3);
        x.rider(9, 9);
        whoRode(x, 1022, ALL_FIGURES);
    }

    private static void whatKind(FreeWheelDown x, int stretch, int kinds, int figures) {
        Check.due("whatKind(" + stretch + ", 0)", x.whatKind(stretch, 0), kinds);
        Check.due("whatKind(" + stretch + ", 1)", x.whatKind(stretch, 1), figures);
    }

    private static void whatKind() {
        FreeWheelDown x = Check.hill(FAIR);
        whatKind(x, 0, 63, ALL_FIGURES);
        Check.row(x, 18);
        whatKind(x, 0, 63, ALL_FIGURES);
        Check.row(x, 18, 14);
        whatKind(x, 0, Check.bits(1), Check.bits(4));
        whatKind(x, 1, 63, ALL_FIGURES);
        Check.row(x, 18, 19);
        whatKind(x, 0, Check.bits(0), 0);
        Check.row(x, 18, 7);
        whatKind(x, 0, Check.bits(3), 0);
        Check.row(x, 18, 9);
        whatKind(x, 0, Check.bits(5), Check.bits(9));
        Check.row(x, 18, 14, 24);
        whatKind(x, 1, Check.bits(2), ALL_FIGURES);
        // Where speeds end at 99 at most, several kinds are as told.
        x = Check.hill("s00;s00;r90;v97;");
        Check.row(x, 97, 99);
        whatKind(x, 0, Check.bits(0, 2, 4), 255);
        whatKind(x, 1, 63, ALL_FIGURES);
        Check.row(x, 97, 0);
        whatKind(x, 0, Check.bits(1, 3), 0);
        Check.row(x, 97, 0, 0);
        whatKind(x, 0, -3, -3);
        // Without riders no stretch begins, whatever is told of it.
        x = Check.hill("s00;s10;");
        whatKind(x, 1, 63, ALL_FIGURES);
        Check.row(x, 0, 0);
        whatKind(x, 0, 63, ALL_FIGURES);
        Check.row(x, 9);
        whatKind(x, 0, 0, 0);
    }

    private static void startTold() {
        FreeWheelDown x = Check.hill(FAIR);
        Check.due("startTold(0)", x.startTold(0), 100);
        Check.due("startTold(1)", x.startTold(1), 0);
        Check.row(x, 30, 26);
        Check.due("startTold(0)", x.startTold(0), 1);
        Check.due("startTold(1)", x.startTold(1), 30);
        Check.row(x, 31, 27);
        Check.due("startTold(0)", x.startTold(0), 0);
        Check.due("startTold(1)", x.startTold(1), -9);
        Check.row(x, 31, 0);
        Check.due("startTold(0)", x.startTold(0), 1);
        Check.due("startTold(1)", x.startTold(1), 31);
        Check.row(x, 31, 0, 0, 0, 0, 0, 0, 0);
        Check.due("startTold(0)", x.startTold(0), -3);
        x = Check.hill("s00;s00;");
        Check.row(x, 0, 0);
        Check.due("no riders", x.startTold(0), 100);
        Check.due("no riders", x.startTold(1), 0);
        Check.row(x, 9);
        Check.due("no riders", x.startTold(0), 0);
        Check.due("no riders", x.startTold(1), -9);
        x = Check.hill("r11;");
        Check.due("no stretches", x.startTold(0), 100);
        Check.row(x, 0);
        Check.due("no stretches", x.startTold(0), -3);
    }

    private static void judged(FreeWheelDown x, int due) {
        Check.due("judge()", x.judge(), due);
        Check.due("the row has none then", x.count(6), 0);
    }

    /** They get over: 0, 0, 0, 0, 0, 2, 2. */
    private static void judged() {
        FreeWheelDown x = Check.hill(FAIR);
        judged(x, -9);
        Check.row(x, 0, 0, 0, 0, 0, 2, 2);
        judged(x, -9);
        Check.row(x, 0, 0, 0, 0, 0, 2, 2, 9);
        judged(x, 7);
        Check.row(x, 0, 0, 0, 0, 2, 2);
        judged(x, 4);
        Check.row(x, 9);
        judged(x, 0);
        Check.row(x, 0, 0, 99, 9);
        judged(x, 2);
        x.waits(1, 1);
        Check.row(x, 0, 1, 9, 9, 9, 9, 9);
        judged(x, -9);
        Check.row(x, 0, 1, 9, 0);
        judged(x, 3);
        x = new FreeWheelDown();
        Check.row(x, 9);
        judged(x, 0);
        x = Check.hill("s00;s00;");
        Check.row(x, 9, 9);
        judged(x, -9);
    }

    private static void theRowStays() {
        FreeWheelDown x = Check.hill(FAIR);
        Check.row(x, 18, 14);
        x.whoRode(0);
        x.whatKind(0, 0);
        x.startTold(0);
        x.steps(1);
        x.ride(0);
        Check.due("count(6)", x.count(6), 2);
        Check.due("startTold(1)", x.startTold(1), 18);
        Check.due("weights stay", x.riderOf(0, 0), 5);
        Check.due("skills stay", x.riderOf(0, 1), 5);
        Check.due("kinds stay", x.stretchOf(0, 0), 1);
        Check.due("start stays", x.count(2), 18);
    }
}
