/** Counts and prints the answers that are not as due, for one test. */
final class Due {
    private int wrong = 0;
    private int asked = 0;
    private String where = "";

    void in(String place) {
        where = place;
    }

    void is(String call, long got, long want) {
        asked++;
        if (got == want) return;
        wrong++;
        if (wrong <= 50) System.out.println(where + ": " + call + " answered " + got + ", due is " + want);
    }

    void holds(String what, boolean right) {
        is(what, right ? 1 : 0, 1);
    }

    int wrong() {
        return wrong;
    }

    void end() {
        System.out.println(asked + " answers, " + wrong + " not as due");
        if (wrong != 0 || asked == 0) System.exit(1);
    }

    static void write(HalfByFive x, String text) {
        x.clear();
        add(x, text);
    }

    static void add(HalfByFive x, String text) {
        for (int i = 0; i < text.length(); i++) x.type(text.charAt(i));
    }

    static long fold(long... values) {
        long h = 967;
        for (long v : values) h = 31 * h + v;
        return h;
    }
}
