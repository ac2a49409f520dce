/** What the tests share: answers against those that are due, and texts typed byte by byte. */
final class Due {
    private static int wrong;
    private static int asked;

    private Due() {
    }

    static void is(String call, long got, long want) {
        asked++;
        if (got != want) {
            wrong++;
            System.out.println(call + " answered " + got + ", due is " + want);
        }
    }

    static void type(FifthsOfGuilt x, String text) {
        for (int i = 0; i < text.length(); i++) {
            x.type(text.charAt(i));
        }
    }

    /** What court() answers to a text, on whatever THE TEXT was: it is cleared first. */
    static int read(FifthsOfGuilt x, String text) {
        x.clear();
        type(x, text);
        return x.court();
    }

    static FifthsOfGuilt told(String text) {
        FifthsOfGuilt x = new FifthsOfGuilt();
        int items = read(x, text);
        if (items < 0) {
            is("court() of " + text, items, text.chars().filter(c -> c == ';').count());
        }
        return x;
    }

    static void end() {
        if (asked == 0) {
            wrong++;
            System.out.println("nothing was asked");
        }
        System.out.println(wrong == 0 ? asked + " answers are as due" : wrong + " answers are not as due");
        if (wrong != 0) {
            System.exit(1);
        }
    }
}
