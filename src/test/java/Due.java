/** Counts answers that are not as due, and tells a text to an object by feed(), end() and text(). */
final class Due {
    private final String name;
    private int asked = 0;
    private int wrong = 0;

    Due(String name) {
        this.name = name;
    }

    void is(String what, long got, long want) {
        asked++;
        if (got != want) {
            wrong++;
            System.out.println(name + ": " + what + " answered " + got + ", due is " + want);
        }
    }

    void yes(String what, boolean got) {
        is(what, got ? 1 : 0, 1);
    }

    void no(String what, boolean got) {
        is(what, got ? 1 : 0, 0);
    }

    /** Ends the program with exit code 1 if an answer was wrong. */
    void close() {
        System.out.println(name + ": " + asked + " answers, " + wrong + " not as due");
        if (wrong != 0) {
            System.exit(1);
        }
    }

    static void feed(ArcadePoles x, String told) {
        for (int i = 0; i < told.length(); i += 20) {
            x.feed(four(told, i), four(told, i + 4), four(told, i + 8), four(told, i + 12), four(told, i + 16));
        }
        x.end(told.length());
    }

    static int four(String told, int from) {
        int number = 0;
        for (int i = from; i < from + 4; i++) {
            number = number << 8 | (i < told.length() ? told.charAt(i) & 255 : ' ');
        }
        return number;
    }

    static int text(ArcadePoles x, int k, String told) {
        feed(x, told);
        return x.text(k);
    }
}
