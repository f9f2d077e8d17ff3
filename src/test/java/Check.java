/** Counts answers that are not as due, and ends a test. */
final class Check {
    private static int asked = 0;
    private static int wrong = 0;
    private static String sentence = "";

    private Check() {
    }

    static void due(String call, long got, long want) {
        asked++;
        if (got != want) {
            wrong++;
            System.out.println(sentence + call + " answered " + got + ", due is " + want);
        }
    }

    static void holds(String what, boolean isSo) {
        due(what, isSo ? 1 : 0, 1);
    }

    /** The words of the document's terms by which the next answers are due. */
    static void terms(String words) {
        sentence = "";
        holds("the document's terms tell: " + words, Document.termsTell(words));
        sentence = "Terms, \"" + words + "\": ";
    }

    /** The words of one promise by which the next answers are due. */
    static void promise(int number, String words) {
        sentence = "";
        holds("Promise " + number + " tells: " + words, Document.promiseTells(number, words));
        sentence = "Promise " + number + ", \"" + words + "\": ";
    }

    static void bicycle(FreeWheelDown x, int at, int speed, int rider, int how) {
        due("bicycle(0)", x.bicycle(0), at);
        due("bicycle(1)", x.bicycle(1), speed);
        due("bicycle(2)", x.bicycle(2), rider);
        due("bicycle(3)", x.bicycle(3), how);
    }

    /** An object to which a hill has been told in letters. */
    static FreeWheelDown hill(String text) {
        FreeWheelDown x = new FreeWheelDown();
        tell(x, text);
        int statements = text.length() - text.replace(";", "").length();
        due("hill() of " + text, x.hill(), statements);
        return x;
    }

    static void tell(FreeWheelDown x, String text) {
        for (int i = 0; i < text.length(); i++) {
            x.feed(text.charAt(i));
        }
    }

    static void row(FreeWheelDown x, int... numbers) {
        x.clear();
        for (int number : numbers) {
            x.row(number);
        }
    }

    static int bits(int... places) {
        int bits = 0;
        for (int place : places) {
            bits |= 1 << place;
        }
        return bits;
    }

    static void end() {
        System.out.println(asked + " answers, " + wrong + " not as due");
        if (wrong != 0) {
            System.exit(1);
        }
    }
}
