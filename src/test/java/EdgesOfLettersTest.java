/** Terms, a HILL told in letters: a test for each sentence that names a boundary. */
public final class EdgesOfLettersTest {
    private EdgesOfLettersTest() {
    }

    public static void main(String[] args) {
        ninetySixAtMost();
        semicolons();
        stretchDigits();
        riderDigits();
        changeDigits();
        startDigits();
        beginHasNone();
        stepsDigits();
        whatDoesNotGo();
        atLeastOne();
        firstKindPlace();
        firstKindEnd();
        firstKindAhead();
        secondKindPlace();
        secondKindLessThePlace();
        outOfRange();
        noSuchOne();
        stepsAbove999();
        noRoom();
        whatDoesNotGoMayNotTellMore();
        withoutFault();
        withFault();
        faultIsNoRefusal();
        Check.end();
    }

    private static void told(String text, int due) {
        told(new FreeWheelDown(), text, due);
    }

    private static void told(FreeWheelDown x, String text, int due) {
        Check.tell(x, text);
        Check.due("hill() of \"" + text + "\"", x.hill(), due);
    }

    private static void ninetySixAtMost() {
        Check.terms("A HILL is told in letters, one by one (96 at most)");
        FreeWheelDown x = new FreeWheelDown();
        Check.tell(x, "v01;".repeat(23) + "v42");
        Check.due("the 96th", x.feed(';'), 96);
        Check.due("a 97th", x.feed('b'), -6);
        Check.due("letters", x.count(5), 96);
        Check.due("all 96 come", x.hill(), 24);
        Check.due("the last of them, too", x.count(2), 42);
        Check.due("room again", x.feed('b'), 1);
    }

    private static void semicolons() {
        Check.terms("STATEMENTS, each with \";\" behind");
        told("b;", 1);
        told("b;b;", 2);
        told("b;b", -1003);
        told("bb;", -1001);
        told("b:", -1001);
        told("b;;", -1002);
        told("s00s00;", -1003);
    }

    private static void stretchDigits() {
        Check.terms("\"s\" KIND, FIGURE (a digit each): a STRETCH more");
        FreeWheelDown x = Check.hill("s00;s59;");
        Check.due("kind", x.stretchOf(1, 0), 5);
        Check.due("figure", x.stretchOf(1, 1), 9);
        Check.due("count(0)", x.count(0), 2);
        told("s/0;", -1001);
        told("s:0;", -1001);
        told("s0/;", -1002);
        told("s0:;", -1002);
        told("s000;", -1003);
        told("s0;", -1002);
    }

    private static void riderDigits() {
        Check.terms("\"r\" WEIGHT, SKILL (a digit each): a RIDER more");
        FreeWheelDown x = Check.hill("r10;r99;");
        Check.due("weight", x.riderOf(0, 0), 1);
        Check.due("skill", x.riderOf(0, 1), 0);
        Check.due("weight", x.riderOf(1, 0), 9);
        Check.due("skill", x.riderOf(1, 1), 9);
        told("r/0;", -1001);
        told("r1:;", -1002);
        told("r100;", -1003);
        told("r1;", -1002);
    }

    private static void changeDigits() {
        Check.terms("\"c\" a STRETCH, a RIDER (a digit each; 9: none): CHANGE");
        FreeWheelDown x = Check.hill("s00;s00;s00;s00;s00;s00;s00;s00;s00;s00;r11;r11;r11;r11;r11;c90;c04;");
        Check.due("the last stretch", x.stretchOf(9, 2), 0);
        Check.due("the last rider", x.stretchOf(0, 2), 4);
        told(x, "c09;c99;", 2);
        Check.due("none", x.stretchOf(0, 2), -9);
        Check.due("no CHANGES", x.count(4), 0);
        told("c/0;", -1001);
        told("c0:;", -1002);
        told("c0-;", -1002);
        told("c000;", -1003);
    }

    private static void startDigits() {
        Check.terms("\"v\" START (2 digits)");
        Check.due("the least", Check.hill("v00;").count(2), 0);
        Check.due("one digit of it", Check.hill("v05;").count(2), 5);
        Check.due("ten of it", Check.hill("v50;").count(2), 50);
        Check.due("the greatest", Check.hill("v99;").count(2), 99);
        told("v9;", -1002);
        told("v100;", -1003);
        told("v-1;", -1001);
    }

    private static void beginHasNone() {
        Check.terms("\"b\": BEGIN");
        FreeWheelDown x = Check.hill("s00;r11;v07;");
        Check.bicycle(x, 0, 9, -9, 1);
        told(x, "b;", 1);
        Check.bicycle(x, 0, 7, 0, 0);
        told("b0;", -1001);
    }

    private static void stepsDigits() {
        Check.terms("\"g\" STEPS (2 digits, 1 .. 60)");
        told("g00;", -2000);
        told("g01;", 1);
        told("g60;", 1);
        told("g61;", -2000);
        told("g99;", -2000);
        told("g1;", -1002);
        told("g001;", -1003);
        FreeWheelDown x = Check.hill("s00;s00;s00;r11;b;g01;");
        Check.bicycle(x, 1, 10, 0, 0);
        told(x, "g02;", 1);
        Check.bicycle(x, 3, 12, 0, 3);
    }

    private static void whatDoesNotGo() {
        Check.terms("so many (what does not go does not)");
        FreeWheelDown x = Check.hill("s00;r11;b;g60;g60;");
        Check.bicycle(x, 1, 10, 0, 3);
        Check.due("STEPS", x.count(3), 1);
        x = Check.hill("g60;");
        Check.bicycle(x, 0, 9, -9, 1);
        Check.due("STEPS", x.count(3), 0);
    }

    private static void atLeastOne() {
        Check.terms("At least one STATEMENT.");
        told("", -1000);
        FreeWheelDown x = Check.hill("b;");
        told(x, "", -1000);
    }

    private static void firstKindPlace() {
        Check.terms("FAULT: kind 1 the place of the first letter with which no HILL can go on");
        told("x", -1000);
        told(";", -1000);
        told("0", -1000);
        told("B;", -1000);
        told("b;x", -1002);
        told("b;s0x", -1004);
        told("b;s00x", -1005);
        told(String.valueOf((char) 0), -1000);
        told("b" + (char) 255, -1001);
        told("v01;".repeat(23) + "v01x", -1095);
    }

    private static void firstKindEnd() {
        Check.terms("(the end, if something lacks): -1000 less the place");
        told("s", -1001);
        told("s0", -1002);
        told("s00", -1003);
        told("b", -1001);
        told("b;g", -1003);
        told("b;" + "v01;".repeat(23) + "b", -1095);
        told("b;" + "v01;".repeat(23) + "v0", -1096);
    }

    private static void firstKindAhead() {
        Check.terms("else kind 2");
        told("s60;", -2000);
        told("s60;x", -1004);
        told("s60;b", -1005);
        told("g00;c00;r00;s6", -1014);
    }

    private static void secondKindPlace() {
        Check.terms("the place of the first letter of the first STATEMENT that, behind all ahead of it in the text, "
            + "is not as it must be");
        told("s60;s70;", -2000);
        told("b;s00;r00;s60;", -2006);
        told("s00;r11;c00;", 3);
        told("s00;c00;r11;", -2004);
        told("r11;c00;s00;", -2004);
        told("b;" + "v01;".repeat(22) + "r00;", -2090);
    }

    private static void secondKindLessThePlace() {
        Check.terms("-2000 less the place.");
        told("r00;", -2000);
        told("b;r00;", -2002);
        told("v01;".repeat(23) + "r00;", -2092);
    }

    private static void outOfRange() {
        Check.terms("(a number out of range");
        told("s50;", 1);
        told("s60;", -2000);
        told("s90;", -2000);
        told("r10;", 1);
        told("r00;", -2000);
        told("g00;", -2000);
        told("g61;", -2000);
    }

    private static void noSuchOne() {
        Check.terms("no such one");
        told("s00;r11;c00;", 3);
        told("s00;r11;c10;", -2008);
        told("s00;r11;c01;", -2008);
        told("s00;r11;c08;", -2008);
        told("s00;c00;", -2004);
        told("r11;c00;", -2004);
        told("s00;c09;", 2);
        told("c09;", -2000);
        told("s00;c19;", -2004);
    }

    /** The 990 STEPS of ten STRETCHES gone down 99 times. */
    private static FreeWheelDown far() {
        FreeWheelDown x = Check.hill("s00;s00;s00;s00;s00;s00;s00;s00;s00;s00;r11;");
        for (int i = 0; i < 99; i++) {
            x.begins();
            x.steps(10);
        }
        Check.due("STEPS", x.count(3), 990);
        return x;
    }

    private static void stepsAbove999() {
        Check.terms("STEPS above 999");
        FreeWheelDown x = far();
        told(x, "b;g10;", -2002);
        told(x, "b;g09;", 2);
        Check.due("STEPS", x.count(3), 999);
        told(x, "g01;", -2000);
        Check.bicycle(x, 9, 18, 0, 0);
        x = far();
        told(x, "b;g04;g06;", -2006);
        told(x, "b;g04;g05;", 3);
        Check.due("STEPS", x.count(3), 999);
    }

    private static void noRoom() {
        Check.terms("no room;");
        String ten = "s00;".repeat(10);
        told(ten, 10);
        told(ten + "s00;", -2040);
        told("r11;".repeat(5), 5);
        told("r11;".repeat(5) + "r11;", -2020);
        FreeWheelDown x = Check.hill(ten + "r11;r11;r11;r11;");
        told(x, "s00;", -2000);
        told(x, "r11;r11;", -2004);
        told(x, "r11;", 1);
        told(x, "r11;", -2000);
    }

    private static void whatDoesNotGoMayNotTellMore() {
        Check.terms("what does not go counts no STEPS, but \"g\" may not tell more than fit");
        FreeWheelDown x = far();
        Check.due("it has ARRIVED", x.bicycle(3), 3);
        told(x, "g10;", -2000);
        told(x, "g09;", 1);
        Check.due("STEPS", x.count(3), 990);
        told(x, "g09;g09;", 2);
        Check.due("STEPS", x.count(3), 990);
    }

    private static void withoutFault() {
        Check.terms("Without FAULT all of it comes");
        FreeWheelDown x = Check.hill("s12;");
        told(x, "s34;r56;c10;v78;b;g01;", 6);
        int[] counts = {2, 1, 78, 1, 1, 0, 0, 0};
        for (int what = 0; what < counts.length; what++) {
            Check.due("count(" + what + ")", x.count(what), counts[what]);
        }
        Check.due("stretchOf(0, 1)", x.stretchOf(0, 1), 2);
        Check.due("stretchOf(1, 1)", x.stretchOf(1, 1), 4);
        Check.due("riderOf(0, 1)", x.riderOf(0, 1), 6);
        Check.bicycle(x, 0, 78, 0, 2);
    }

    private static void withFault() {
        Check.terms("with one nothing.");
        FreeWheelDown x = Check.hill("s12;r11;b;");
        x.starts(3);
        for (String fault : new String[] {"s34;r56;c00;v78;b;g01;x", "s34;r56;c00;v78;b;g01;r00;"}) {
            told(x, fault, fault.endsWith("x") ? -1022 : -2022);
            int[] counts = {1, 1, 3, 0, 0, 0, 0, 1};
            for (int what = 0; what < counts.length; what++) {
                Check.due("count(" + what + ")", x.count(what), counts[what]);
            }
            Check.bicycle(x, 0, 9, 0, 0);
        }
    }

    private static void faultIsNoRefusal() {
        Check.promise(3, "the FAULT (nothing is counted)");
        FreeWheelDown x = new FreeWheelDown();
        told(x, "", -1000);
        told(x, "x", -1000);
        told(x, "s60;", -2000);
        for (int what = 11; what <= 16; what++) {
            Check.due("count(" + what + ")", x.count(what), 0);
        }
    }
}
