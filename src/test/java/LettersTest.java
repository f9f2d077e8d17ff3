/** Promises 2 and 3: letters and the hills that they tell. */
public final class LettersTest {
    private LettersTest() {
    }

    public static void main(String[] args) {
        letters();
        faultsOfForm();
        faultsOfSense();
        stepsOfSense();
        whatComes();
        nothingComesWithAFault();
        fullTexts();
        Check.end();
    }

    private static void letters() {
        FreeWheelDown x = new FreeWheelDown();
        Check.due("feed(0)", x.feed(0), 1);
        Check.due("feed(255)", x.feed(255), 2);
        Check.due("feed(-1)", x.feed(-1), -4);
        Check.due("feed(256)", x.feed(256), -6);
        Check.due("count(5)", x.count(5), 2);
        for (int i = 3; i <= 96; i++) {
            Check.due("feed 'b'", x.feed('b'), i);
        }
        Check.due("a 97th letter", x.feed('b'), -6);
        Check.due("a 97th letter below 0", x.feed(-5), -4);
        Check.due("count(5)", x.count(5), 96);
        Check.due("hill()", x.hill(), -1000);
        Check.due("no letters more", x.count(5), 0);
        Check.due("feed again", x.feed('b'), 1);
    }

    private static void fault(String text, int due) {
        fault(new FreeWheelDown(), text, due);
    }

    private static void fault(FreeWheelDown x, String text, int due) {
        Check.tell(x, text);
        Check.due("hill() of \"" + text + "\"", x.hill(), due);
        Check.due("letters behind \"" + text + "\"", x.count(5), 0);
        for (int what = 11; what <= 16; what++) {
            Check.due("a fault is no refusal", x.count(what), 0);
        }
    }

    private static void faultsOfForm() {
        fault("", -1000);
        fault("x", -1000);
        fault(";", -1000);
        fault("S00;", -1000);
        fault("s", -1001);
        fault("s1", -1002);
        fault("s12", -1003);
        fault("sa2;", -1001);
        fault("s1a;", -1002);
        fault("s123;", -1003);
        fault("s1;2", -1002);
        fault("s/0;", -1001);
        fault("s:0;", -1001);
        fault("r1", -1002);
        fault("c1", -1002);
        fault("v1;", -1002);
        fault("g1;", -1002);
        fault("b", -1001);
        fault("bb;", -1001);
        fault("b1;", -1001);
        fault("b;;", -1002);
        fault("b; b;", -1002);
        fault("b;b;g01", -1007);
        fault("b;b;s0" + (char) 200 + ";", -1006);
        fault("s99;x", -1004);
    }

    private static void faultsOfSense() {
        fault("s60;", -2000);
        fault("s90;", -2000);
        fault("b;s00;s60;s70;", -2006);
        fault("r05;", -2000);
        fault("c09;", -2000);
        fault("s00;c19;", -2004);
        fault("s00;c00;", -2004);
        fault("s00;r11;c01;", -2008);
        fault("s00;c00;r11;", -2004);
        fault("c99;", -2000);
        fault("r11;r11;r11;r11;r11;b;r11;", -2022);
        fault("s00;s00;s00;s00;s00;s00;s00;s00;s00;s00;s00;", -2040);
        fault("g00;", -2000);
        fault("g61;", -2000);
        fault("g99;", -2000);
        Check.hill("s00;s00;s00;s00;s00;s00;s00;s00;s00;s59;r90;c90;c99;");
        Check.hill("v00;v99;g01;g60;b;");
    }

    /** 'g' may not tell more than fits, also if nothing goes. */
    private static void stepsOfSense() {
        FreeWheelDown x = Check.hill("s00;s00;s00;s00;s00;s00;s00;s00;s00;s00;r11;");
        for (int i = 0; i < 94; i++) {
            x.begins();
            x.steps(60);
        }
        Check.due("940 steps", x.count(3), 940);
        fault(x, "g60;", -2000);
        fault(x, "g59;g59;", 2);
        fault(x, "b;g59;g50;", -2006);
        fault(x, "b;g59;g49;b;g39;", 5);
        Check.due("960 steps", x.count(3), 960);
        fault(x, "g40;", -2000);
        fault(x, "g39;", 1);
        Check.due("960 steps", x.count(3), 960);
        Check.due("as steps(40)", x.steps(40), -6);
        Check.due("as steps(39)", x.steps(39), 3);
    }

    private static void whatComes() {
        FreeWheelDown x = Check.hill("s14;s20;r55;r81;c11;v20;b;g01;");
        int[][] stretches = {{1, 4, -9}, {2, 0, 1}};
        for (int s = 0; s < 2; s++) {
            for (int what = 0; what < 3; what++) {
                Check.due("stretchOf(" + s + ", " + what + ")", x.stretchOf(s, what), stretches[s][what]);
            }
        }
        int[][] riders = {{5, 5}, {8, 1}};
        for (int r = 0; r < 2; r++) {
            for (int what = 0; what < 2; what++) {
                Check.due("riderOf(" + r + ", " + what + ")", x.riderOf(r, what), riders[r][what]);
            }
        }
        Check.due("start", x.count(2), 20);
        Check.due("steps", x.count(3), 1);
        Check.due("at", x.bicycle(0), 1);
        Check.due("speed", x.bicycle(1), 16);
        Check.due("rider", x.bicycle(2), 0);
        Check.tell(x, "g01;c10;c19;s50;r99;");
        Check.due("a second hill", x.hill(), 5);
        Check.due("comes behind the first", x.count(0), 3);
        Check.due("comes behind the first", x.count(1), 3);
        Check.due("nobody waits", x.count(4), 0);
        Check.due("ridden while he waited", x.bicycle(2), 1);
        Check.due("arrived while there were two", x.bicycle(3), 3);
    }

    private static void nothingComesWithAFault() {
        FreeWheelDown x = Check.hill("s14;s20;r55;r81;");
        x.starts(8);
        fault(x, "s00;r11;c11;v55;b;g01;s70;", -2022);
        fault(x, "s00;r11;c11;v55;b;g01;s0;", -1024);
        Check.due("stretches", x.count(0), 2);
        Check.due("riders", x.count(1), 2);
        Check.due("start", x.count(2), 8);
        Check.due("steps", x.count(3), 0);
        Check.due("changes", x.count(4), 0);
        Check.due("what can be taken back stays", x.count(7), 1);
        fault(x, "v55;", 1);
        Check.due("without fault nothing can be", x.count(7), 0);
        Check.due("back()", x.back(), -3);
    }

    private static void fullTexts() {
        String begins = "b;".repeat(48);
        fault(begins, 48);
        fault("v01;".repeat(24), 24);
        fault("v01;".repeat(23) + "v01x", -1095);
        fault("v01;".repeat(23) + "b;b;", 25);
        fault("b;" + "v01;".repeat(23) + "b", -1095);
    }
}
