/** Promises 1 to 32, each by answers worked out by hand from the document. */
public final class PromisesTest {
    private static final int BAD = HalfByFive.BAD;
    private static final int NO = HalfByFive.NO;
    private static final int FULL = HalfByFive.FULL;
    private static final Due due = new Due();

    public static void main(String[] args) {
        newObject();
        market();
        bring();
        price();
        theirs();
        rain();
        buyer();
        type();
        clear();
        read();
        readFaults();
        day();
        learnt();
        undo();
        of();
        about();
        takes();
        to();
        best();
        brings();
        come();
        stalls();
        mean();
        shout();
        sold();
        forget();
        may();
        drawn();
        part();
        image();
        from();
        status();
        count();
        digest();
        due.end();
    }

    /** That a call just made was refused: it answered so, counted so, and changed nothing else. */
    private static void refused(HalfByFive x, String call, long got, long want, long digestAhead) {
        due.is(call, got, want);
        due.is("digest behind " + call, x.digest(), digestAhead);
    }

    private static HalfByFive withBuyer(int kind, int hour, int worth, int wants) {
        HalfByFive x = new HalfByFive();
        x.buyer(kind, hour, worth, wants);
        return x;
    }

    private static void counts(HalfByFive x, int... want) {
        for (int i = 0; i < want.length; i++) due.is("count(" + i + ")", x.count(i), want[i]);
    }

    private static void newObject() {
        due.in("promise 1");
        HalfByFive x = new HalfByFive();
        counts(x, 20, 0, 0, 0, 0, 0, 0, 0);
        for (int h = 0; h < 10; h++) {
            due.is("of(" + h + ", 0)", x.of(h, 0), 40);
            due.is("of(" + h + ", 1)", x.of(h, 1), 0);
            due.is("of(" + h + ", 2)", x.of(h, 2), 0);
            due.is("of(" + h + ", 3)", x.of(h, 3), 0);
        }
        due.is("part(0)", x.part(0), 0);
        due.is("part(1)", x.part(1), 1);
        for (int i = 0; i < 3; i++) due.is("status(" + i + ")", x.status(i), 0);
        due.is("undo()", x.undo(), NO);
        due.is("from(0)", x.from(0), NO);
        due.is("from(1)", x.from(1), NO);
        due.is("NONE", HalfByFive.NONE, -1);
        due.is("BAD", BAD, -2);
        due.is("NO", NO, -3);
        due.is("FULL", FULL, -4);
    }

    private static void market() {
        due.in("promise 2");
        HalfByFive x = new HalfByFive();
        due.is("market(99, 9)", x.market(99, 9), 0);
        counts(x, 99, 9, 0);
        x.buyer(0, 0, 50, 1);
        x.buyer(0, 1, 50, 1);
        x.price(2, 7);
        x.theirs(3, 8);
        x.rain(4);
        x.sold(1, 1);
        x.day();
        x.type('m');
        x.mean(5);
        long above = x.part(0);
        long below = x.part(1);
        x.image(1);
        x.count(9);
        due.is("market(0, 0)", x.market(0, 0), 2);
        counts(x, 0, 0, 0, 0, 0, 0, 0, 1);
        for (int h = 0; h < 10; h++) {
            due.is("of(" + h + ", 0)", x.of(h, 0), 40);
            due.is("of(" + h + ", 1)", x.of(h, 1), 0);
            due.is("of(" + h + ", 2)", x.of(h, 2), 0);
        }
        due.is("part(0)", x.part(0), above);
        due.is("part(1)", x.part(1), below);
        due.is("status(0)", x.status(0), 1);
        long was = x.digest();
        refused(x, "market(100, 0)", x.market(100, 0), BAD, was);
        refused(x, "market(-1, 0)", x.market(-1, 0), BAD, was);
        refused(x, "market(0, 10)", x.market(0, 10), BAD, was);
        refused(x, "market(0, -1)", x.market(0, -1), BAD, was);
        due.is("status(0)", x.status(0), 5);
        due.is("from(1)", x.from(1), 1);
        counts(x, 99, 9, 2);
    }

    private static void bring() {
        due.in("promise 3");
        HalfByFive x = new HalfByFive();
        due.is("bring(0)", x.bring(0), 20);
        due.is("bring(99)", x.bring(99), 0);
        due.is("bring(5)", x.bring(5), 99);
        due.is("count(0)", x.count(0), 5);
        long was = x.digest();
        refused(x, "bring(100)", x.bring(100), BAD, was);
        refused(x, "bring(-1)", x.bring(-1), BAD, was);
        due.is("status(0)", x.status(0), 2);
    }

    private static void price() {
        due.in("promise 4");
        HalfByFive x = new HalfByFive();
        due.is("price(3, 30)", x.price(3, 30), 40);
        due.is("price(9, 0)", x.price(9, 0), 30);
        due.is("price(5, 99)", x.price(5, 99), 30);
        int[] want = {40, 40, 40, 30, 30, 99, 99, 99, 99, 99};
        for (int h = 0; h < 10; h++) due.is("of(" + h + ", 0)", x.of(h, 0), want[h]);
        due.is("price(0, 7)", x.price(0, 7), 40);
        for (int h = 0; h < 10; h++) due.is("of(" + h + ", 0)", x.of(h, 0), 7);
        long was = x.digest();
        refused(x, "price(-1, 0)", x.price(-1, 0), BAD, was);
        refused(x, "price(10, 0)", x.price(10, 0), BAD, was);
        refused(x, "price(0, -1)", x.price(0, -1), BAD, was);
        refused(x, "price(0, 100)", x.price(0, 100), BAD, was);
        due.is("status(0)", x.status(0), 4);
    }

    private static void theirs() {
        due.in("promise 5");
        HalfByFive x = new HalfByFive();
        due.is("theirs(3, 1)", x.theirs(3, 1), 0);
        due.is("theirs(3, 99)", x.theirs(3, 99), 1);
        due.is("theirs(9, 5)", x.theirs(9, 5), 0);
        int[] want = {0, 0, 0, 99, 0, 0, 0, 0, 0, 5};
        for (int h = 0; h < 10; h++) due.is("of(" + h + ", 1)", x.of(h, 1), want[h]);
        due.is("theirs(3, 0)", x.theirs(3, 0), 99);
        due.is("of(3, 1)", x.of(3, 1), 0);
        long was = x.digest();
        refused(x, "theirs(-1, 0)", x.theirs(-1, 0), BAD, was);
        refused(x, "theirs(10, 0)", x.theirs(10, 0), BAD, was);
        refused(x, "theirs(0, -1)", x.theirs(0, -1), BAD, was);
        refused(x, "theirs(0, 100)", x.theirs(0, 100), BAD, was);
        due.is("status(0)", x.status(0), 4);
    }

    private static void rain() {
        due.in("promise 6");
        HalfByFive x = new HalfByFive();
        due.is("rain(1023)", x.rain(1023), 0);
        due.is("rain(513)", x.rain(513), 1023);
        for (int h = 0; h < 10; h++) due.is("of(" + h + ", 2)", x.of(h, 2), h == 0 || h == 9 ? 1 : 0);
        due.is("rain(0)", x.rain(0), 513);
        long was = x.digest();
        refused(x, "rain(1024)", x.rain(1024), BAD, was);
        refused(x, "rain(-1)", x.rain(-1), BAD, was);
        due.is("status(0)", x.status(0), 2);
    }

    private static void buyer() {
        due.in("promise 7");
        HalfByFive x = new HalfByFive();
        x.day();
        due.is("buyer(5, 9, 99, 3)", x.buyer(5, 9, 99, 3), 0);
        due.is("count(6) behind a buyer", x.count(6), 0);
        due.is("buyer(0, 0, 0, 1)", x.buyer(0, 0, 0, 1), 1);
        for (int b = 2; b < 8; b++) due.is("buyer(1, 1, 1, 1)", x.buyer(1, 1, 1, 1), b);
        x.day();
        long was = x.digest();
        refused(x, "a 9th buyer", x.buyer(0, 0, 0, 1), FULL, was);
        refused(x, "a wrong 9th buyer", x.buyer(6, 0, 0, 1), BAD, was);
        due.is("count(6) behind refused ones", x.count(6), 1);
        due.is("status(2)", x.status(2), 1);
        HalfByFive y = new HalfByFive();
        was = y.digest();
        int[][] wrong = {{-1, 0, 0, 1}, {6, 0, 0, 1}, {0, -1, 0, 1}, {0, 10, 0, 1},
            {0, 0, -1, 1}, {0, 0, 100, 1}, {0, 0, 0, 0}, {0, 0, 0, 4}};
        for (int[] w : wrong) refused(y, "a wrong buyer", y.buyer(w[0], w[1], w[2], w[3]), BAD, was);
        due.is("status(0)", y.status(0), 8);
    }

    private static void type() {
        due.in("promise 8");
        HalfByFive x = new HalfByFive();
        due.is("type(0)", x.type(0), 1);
        due.is("type(127)", x.type(127), 2);
        due.is("type(128)", x.type(128), BAD);
        due.is("type(-1)", x.type(-1), BAD);
        for (int i = 3; i <= 150; i++) due.is("type(32)", x.type(32), i);
        due.is("a 151st byte", x.type(32), FULL);
        due.is("a wrong 151st byte", x.type(200), BAD);
        due.is("count(7)", x.count(7), 150);
        due.is("status(0)", x.status(0), 3);
        due.is("status(2)", x.status(2), 1);
    }

    private static void clear() {
        due.in("promise 9");
        HalfByFive x = new HalfByFive();
        due.is("clear()", x.clear(), 0);
        x.type('a');
        x.type('b');
        due.is("clear()", x.clear(), 2);
        due.is("count(7)", x.count(7), 0);
        due.is("type(99)", x.type(99), 1);
    }

    private static int reads(HalfByFive x, String text) {
        Due.write(x, text);
        return x.read();
    }

    private static void read() {
        due.in("promise 10");
        HalfByFive x = new HalfByFive();
        x.buyer(0, 0, 50, 1);
        x.rain(1);
        x.theirs(1, 1);
        x.sold(0, 1);
        x.mean(10);
        x.image(0);
        x.day();
        due.is("read()", reads(x, " market 09 2 ; price 5 20;price 7 10;theirs 3 35;theirs 4 0;rain 2;"
            + "rain 9;rain 2;buyer 4 9 99 3;buyer0 00 0 1;  "), 10);
        counts(x, 9, 2, 2, 0, 0, 0, 0);
        int[] prices = {40, 40, 40, 40, 40, 20, 20, 10, 10, 10};
        for (int h = 0; h < 10; h++) {
            due.is("of(" + h + ", 0)", x.of(h, 0), prices[h]);
            due.is("of(" + h + ", 1)", x.of(h, 1), h == 3 ? 35 : 0);
            due.is("of(" + h + ", 2)", x.of(h, 2), h == 2 || h == 9 ? 1 : 0);
        }
        int[] first = {4, 9, 99, 3};
        int[] second = {0, 0, 0, 1};
        for (int i = 0; i < 4; i++) {
            due.is("about(0, " + i + ")", x.about(0, i), first[i]);
            due.is("about(1, " + i + ")", x.about(1, i), second[i]);
        }
        due.holds("the text stays", x.count(7) > 0 && x.read() == 10);
        due.is("part(0)", x.part(0), 0);
        due.is("from(0)", x.from(0), 1);
        due.is("count(0) of the image", x.count(0), 20);
        due.is("a market alone", reads(x, "market 99 9;"), 1);
        due.is("eight buyers", reads(x, "market 0 0;buyer 0 0 0 1;buyer 0 0 0 1;buyer 0 0 0 1;buyer 0 0 0 1;"
            + "buyer 0 0 0 1;buyer 0 0 0 1;buyer 0 0 0 1;buyer 0 0 0 1;"), 9);
        for (int i = 0; i < 3; i++) due.is("status(" + i + ")", x.status(i), 0);
        readEdges(new HalfByFive());
    }

    private static void readEdges(HalfByFive x) {
        due.is("the least numbers", reads(x, "market 0 0;price 0 0;theirs 0 1;rain 0;buyer 0 0 0 1;"), 5);
        due.is("of(0, 0)", x.of(0, 0), 0);
        due.is("of(0, 1)", x.of(0, 1), 1);
        due.is("of(0, 2)", x.of(0, 2), 1);
        due.is("the greatest numbers", reads(x, "market 99 9;price 9 99;theirs 9 99;rain 9;buyer 5 9 99 3;"), 5);
        due.is("of(9, 0)", x.of(9, 0), 99);
        due.is("of(9, 1)", x.of(9, 1), 99);
        due.is("of(9, 2)", x.of(9, 2), 1);
        due.is("about(0, 0)", x.about(0, 0), 5);
        due.is("a shorter text behind a longer one", reads(x, "market 9 9"), -20);
        due.is("a shorter text behind a longer one", reads(x, "mark"), -10);
        due.is("a text of 150 bytes", reads(x, "market 1 2;" + "rain 1;".repeat(19) + "rain2;"), 21);
        due.is("count(7)", x.count(7), 150);
    }

    private static void fault(String text, int place) {
        HalfByFive x = withBuyer(2, 3, 4, 1);
        x.day();
        x.sold(1, 2);
        Due.write(x, text);
        long was = x.digest();
        refused(x, "read() of '" + text + "'", x.read(), -10 - place, was);
        for (int i = 0; i < 3; i++) due.is("status(" + i + ") behind '" + text + "'", x.status(i), 0);
    }

    private static void readFaults() {
        due.in("promise 10, faults");
        fault("", 0);
        fault("   ", 3);
        fault("market", 6);
        fault("market ", 7);
        fault("market 1 1", 10);
        fault("market 1 1 ", 11);
        fault("marke", 0);
        fault("marketz 1 1;", 0);
        fault("zarket 1 1;", 0);
        fault("market{1 1;", 6);
        fault("market`1 1;", 6);
        fault("market/1 1;", 6);
        fault("market:1 1;", 6);
        fault("market 1 1;1;", 11);
        fault("market 1 1;1 2;", 11);
        fault("Market 1 1;", 0);
        fault("1 market 1 1;", 0);
        fault(";market 1 1;", 0);
        fault("price 0 0;market 1 1;", 0);
        fault("market 1 1;market 1 1;", 11);
        fault("market 1 1; markets", 12);
        fault("market 1 1;;", 11);
        fault("market 1 1 1;", 11);
        fault("market 1;", 8);
        fault("market;", 6);
        fault("market market 1;", 7);
        fault("market 001 1;", 7);
        fault("market 100 1;", 7);
        fault("market 1 10;", 9);
        fault("market 1 -1;", 9);
        fault("market 1\t1;", 8);
        fault("market 1 1;price 10 5;", 17);
        fault("market 1 1;price 9 5", 20);
        fault("market 1 1;price 9 5 6;", 21);
        fault("market 1 1;price 9;", 18);
        fault("market 1 1;price 9 100;", 19);
        fault("market 1 1;price 9 x;", 19);
        fault("market 1 1;theirs 10 1;", 18);
        fault("market 1 1;theirs x;", 18);
        fault("market 1 1;theirs 1;", 19);
        fault("market 1 1;buyer;", 16);
        fault("market 1 1;buyer 1;", 18);
        fault("market 1 1;buyer 1 1;", 20);
        fault("market 1 1;theirs 9 100;", 20);
        fault("market 1 1;theirs 9 9 9;", 22);
        fault("market 1 1;rain 10;", 16);
        fault("market 1 1;rain 1 2;", 18);
        fault("market 1 1;rain ;", 16);
        fault("market 1 1;rain", 15);
        fault("market 1 1;buyer 6 0 0 1;", 17);
        fault("market 1 1;buyer 0 10 0 1;", 19);
        fault("market 1 1;buyer 0 0 100 1;", 21);
        fault("market 1 1;buyer 0 0 0 0;", 23);
        fault("market 1 1;buyer 0 0 0 4;", 23);
        fault("market 1 1;buyer 0 0 0;", 22);
        fault("market 1 1;buyer 0 0 0 1 1;", 25);
        fault("market 1 1;sell 0;", 11);
        fault("market 1 1;?", 11);
        String eight = "buyer 0 0 0 1;";
        fault("market 1 1;" + eight.repeat(8) + "buyer x", 11 + 8 * 14);
        fault("market 1 1;" + "rain 1;".repeat(19) + "price ", 150);
    }

    private static void day() {
        due.in("promise 11");
        HalfByFive x = new HalfByFive();
        due.is("day() with no buyers", x.day(), 0);
        counts(x, 20, 0, 0, 0, 20, 0, 1);
        x.market(3, 0);
        x.buyer(0, 2, 50, 2);
        x.buyer(0, 1, 50, 2);
        x.price(2, 30);
        due.is("day()", x.day(), 2 * 40 + 30);
        counts(x, 3, 0, 2, 110, 0, 0, 1);
        x.bring(9);
        due.is("day()", x.day(), 2 * 40 + 2 * 30);
        counts(x, 9, 0, 2, 250, 5, 0, 2);
        for (int i = 0; i < 9; i++) x.day();
        counts(x, 9, 0, 2, 250 + 9 * 140, 5 + 9 * 5, 0, 8);
    }

    private static void learnsTo(int kind, int priceNow, int priceLater, int want) {
        HalfByFive x = withBuyer(kind, 4, 99, 1);
        x.price(0, priceNow);
        x.price(9, priceLater);
        x.day();
        due.is("kind " + kind + " at " + priceNow + " with " + priceLater + " later", x.about(0, 0), want);
    }

    private static void learnt() {
        due.in("promise 11, learnt");
        int[] waiting = {1, 1, 1, 3, 4, 1};
        for (int kind = 0; kind < 6; kind++) {
            learnsTo(kind, 41, 19, waiting[kind]);
            learnsTo(kind, 41, 20, kind);
            learnsTo(kind, 1, 0, kind);
        }
        HalfByFive x = withBuyer(0, 5, 99, 1);
        x.price(0, 10);
        x.price(5, 40);
        x.day();
        due.is("a lower price earlier", x.about(0, 0), 0);
        x.price(6, 19);
        x.price(7, 40);
        x.day();
        due.is("a lower price in the next hour alone", x.about(0, 0), 1);
        x = withBuyer(0, 5, 99, 1);
        x.price(9, 1);
        x.theirs(5, 39);
        x.day();
        due.is("one who bought next door", x.about(0, 0), 0);
        x = withBuyer(0, 5, 39, 1);
        x.price(9, 1);
        x.day();
        due.is("one who did not buy", x.about(0, 0), 0);
        for (int kind = 0; kind < 6; kind++) {
            x = withBuyer(kind, 5, 1, 1);
            x.day();
            due.is("kind " + kind + " that got nothing", x.about(0, 0), kind == 1 ? 0 : kind);
        }
        x = withBuyer(1, 5, 99, 1);
        x.theirs(5, 39);
        x.day();
        due.is("one who waits, served next door", x.about(0, 0), 1);
        x.bring(0);
        x.day();
        due.is("one who waits, served next door again", x.about(0, 0), 1);
        x.theirs(5, 0);
        x.day();
        due.is("one who waits, with nothing left", x.about(0, 0), 0);
    }

    private static void undo() {
        due.in("promise 12");
        HalfByFive x = withBuyer(0, 0, 60, 1);
        due.is("undo()", x.undo(), NO);
        x.price(0, 50);
        x.price(9, 24);
        x.day();
        due.is("about(0, 0)", x.about(0, 0), 1);
        x.price(0, 61);
        x.bring(7);
        x.day();
        due.is("about(0, 0)", x.about(0, 0), 0);
        counts(x, 7, 0, 1, 50, 26, 0, 2);
        due.is("undo()", x.undo(), 50);
        counts(x, 7, 0, 1, 50, 19, 0, 1);
        due.is("about(0, 0)", x.about(0, 0), 1);
        due.is("of(0, 0)", x.of(0, 0), 61);
        due.is("undo()", x.undo(), 0);
        counts(x, 7, 0, 1, 0, 0, 0, 0);
        due.is("about(0, 0)", x.about(0, 0), 0);
        long was = x.digest();
        refused(x, "undo()", x.undo(), NO, was);
        due.is("status(1)", x.status(1), 2);
        x.price(0, 10);
        for (int i = 1; i <= 10; i++) {
            x.bring(i % 2);
            x.day();
        }
        due.is("count(6)", x.count(6), 8);
        for (int i = 9; i >= 2; i--) due.is("undo()", x.undo(), (i + 1) / 2 * 10);
        due.is("undo() once more", x.undo(), NO);
        x.day();
        x.market(1, 1);
        due.is("undo() behind market", x.undo(), NO);
    }

    private static void of() {
        due.in("promise 13");
        HalfByFive x = crowd();
        int[] go = {0, 0, 2, 4, 2, 2, 1, 0, 1, 0};
        for (int h = 0; h < 10; h++) due.is("of(" + h + ", 3)", x.of(h, 3), go[h]);
        x.theirs(9, 3);
        due.is("of(9, 0)", x.of(9, 0), 20);
        due.is("of(9, 1)", x.of(9, 1), 3);
        due.is("of(9, 2)", x.of(9, 2), 0);
        x.rain(8);
        due.is("of(3, 2)", x.of(3, 2), 1);
        due.is("of(3, 3) with rain", x.of(3, 3), 2);
        due.is("of(0, 3)", withBuyer(0, 0, 40, 3).of(0, 3), 3);
        long was = x.digest();
        int[][] wrong = {{-1, 0}, {10, 0}, {0, -1}, {0, 4}};
        for (int[] w : wrong) refused(x, "of", x.of(w[0], w[1]), BAD, was);
        due.is("status(0)", x.status(0), 4);
    }

    /** Eight buyers of all kinds at a stall with 20 punnets, heat 2, 40 each, 20 from hour 5 on. */
    private static HalfByFive crowd() {
        HalfByFive x = new HalfByFive();
        x.market(20, 2);
        x.price(5, 20);
        x.buyer(0, 3, 50, 2);
        x.buyer(1, 3, 50, 2);
        x.buyer(1, 2, 50, 2);
        x.buyer(2, 3, 50, 2);
        x.buyer(3, 1, 50, 1);
        x.buyer(3, 8, 50, 1);
        x.buyer(4, 0, 51, 3);
        x.buyer(5, 4, 50, 1);
        return x;
    }

    private static void about() {
        due.in("promise 14");
        HalfByFive x = crowd();
        int[][] want = {{0, 3, 50, 2, 2}, {1, 3, 50, 2, 2}, {1, 2, 50, 2, 2}, {2, 3, 50, 2, 2},
            {3, 1, 50, 1, 1}, {3, 8, 50, 1, 1}, {4, 0, 51, 3, 6}, {5, 4, 50, 1, 2}};
        for (int b = 0; b < 8; b++) {
            for (int i = 0; i < 5; i++) due.is("about(" + b + ", " + i + ")", x.about(b, i), want[b][i]);
        }
        HalfByFive y = withBuyer(5, 0, 0, 2);
        y.buyer(5, 0, 0, 3);
        due.is("a pair that wants 2", y.about(0, 4), 2);
        due.is("a pair that wants 3", y.about(1, 4), 3);
        long was = y.digest();
        int[][] wrong = {{-1, 0}, {2, 0}, {8, 0}, {0, -1}, {0, 5}};
        for (int[] w : wrong) refused(y, "about", y.about(w[0], w[1]), BAD, was);
        due.is("status(0)", y.status(0), 5);
    }

    private static void takes() {
        due.in("promise 15");
        HalfByFive x = crowd();
        long was = x.digest();
        due.is("takes(0)", x.takes(0), 8 * 40 + 4 * 20);
        due.is("takes(1)", x.takes(1), 8);
        due.is("digest behind takes", x.digest(), was);
        refused(x, "takes(2)", x.takes(2), BAD, was);
        refused(x, "takes(-1)", x.takes(-1), BAD, was);
        due.is("status(0)", x.status(0), 2);
        x.theirs(3, 39);
        due.is("takes(0) with a neighbour", x.takes(0), 4 * 40 + 4 * 20);
        x.theirs(3, 40);
        due.is("takes(0) with one as dear", x.takes(0), 8 * 40 + 4 * 20);
        x.rain(1023);
        due.is("takes(0) with rain", x.takes(0), 2 * 40);
        x.price(9, 16);
        due.is("takes(0) with rain and bags", x.takes(0), 2 * 40 + 6 * 16);
        x.rain(0);
        x.bring(5);
        due.is("takes(0) of five", x.takes(0), 5 * 40);
        due.is("takes(1) of five", x.takes(1), 0);
        x.price(0, 0);
        due.is("takes(0) for nothing", x.takes(0), 0);
    }

    private static void toEach(HalfByFive x, int[][] want) {
        for (int b = 0; b < want.length; b++) {
            for (int i = 0; i < 4; i++) due.is("to(" + b + ", " + i + ")", x.to(b, i), want[b][i]);
        }
    }

    private static void to() {
        due.in("promise 16");
        HalfByFive x = crowd();
        toEach(x, new int[][] {{3, 44, 2, 1}, {5, 40, 2, 1}, {2, 46, 2, 1}, {3, 88, 2, 1},
            {6, 43, 1, 1}, {8, 39, 1, 1}, {9, 16, 0, 0}, {4, 47, 2, 1}});
        x.rain(1 << 3 | 1 << 6);
        x.theirs(4, 39);
        x.theirs(5, 20);
        x.theirs(8, 19);
        x.bring(3);
        toEach(x, new int[][] {{3, 44, 0, 0}, {5, 40, 0, 0}, {2, 46, 2, 1}, {3, 88, 1, 1},
            {6, 43, 0, 0}, {8, 39, 0, 1}, {9, 16, 0, 0}, {4, 47, 0, 1}});
        long was = x.digest();
        int[][] wrong = {{-1, 0}, {8, 0}, {0, -1}, {0, 4}};
        for (int[] w : wrong) refused(x, "to", x.to(w[0], w[1]), BAD, was);
        due.is("status(0)", x.status(0), 4);
        due.in("promise 16, edges of kinds");
        x.market(20, 9);
        x.price(9, 4);
        x.buyer(1, 8, 99, 1);
        x.buyer(1, 9, 99, 1);
        x.buyer(1, 7, 99, 1);
        x.buyer(3, 6, 20, 1);
        x.buyer(4, 0, 80, 1);
        x.buyer(5, 3, 26, 1);
        x.buyer(2, 3, 26, 1);
        x.buyer(0, 3, 27, 1);
        toEach(x, new int[][] {{9, 18, 1, 1}, {9, 18, 1, 1}, {9, 18, 1, 1}, {6, 5, 0, 0},
            {9, 0, 0, 0}, {3, 5, 0, 0}, {3, 0, 0, 0}, {3, 0, 0, 0}});
        x.buyer(0, 0, 0, 1);
        x.price(0, 40);
        x.theirs(9, 18);
        due.is("a neighbour's price that one just pays", x.to(1, 3), 1);
        due.is("got at the stall", x.to(1, 2), 0);
        x.theirs(9, 19);
        due.is("a neighbour's price beyond that", x.to(1, 3), 0);
    }

    private static void best() {
        due.in("promise 17");
        HalfByFive x = withBuyer(0, 0, 60, 1);
        due.is("best(60, 60, 0, 0)", x.best(60, 60, 0, 0), 60);
        due.is("best(60, 60, 0, 1)", x.best(60, 60, 0, 1), 1);
        due.is("best(60, 0, 0, 1)", x.best(60, 0, 0, 1), 12);
        due.is("best(99, 99, 99, 1)", x.best(99, 99, 99, 1), 0);
        x.buyer(0, 5, 30, 2);
        long was = x.digest();
        due.is("best(60, 30, 10, 0)", x.best(60, 30, 10, 0), 120);
        due.is("best(60, 30, 10, 1)", x.best(60, 30, 10, 1), 17);
        due.is("digest behind best", x.digest(), was);
        x.buyer(0, 9, 60, 3);
        due.is("best(60, 0, 0, 0)", x.best(60, 0, 0, 0), 240);
        due.is("best(60, 0, 0, 1)", x.best(60, 0, 0, 1), 120);
        was = x.digest();
        int[][] wrong = {{-1, -1, -1, 0}, {100, 0, 0, 0}, {5, 6, 0, 0}, {5, 5, 6, 0}, {5, 5, -1, 0},
            {5, 5, 5, 2}, {5, 5, 5, -1}};
        for (int[] w : wrong) refused(x, "best", x.best(w[0], w[1], w[2], w[3]), BAD, was);
        due.is("status(0)", x.status(0), 7);
    }

    private static void brings() {
        due.in("promise 18");
        HalfByFive x = withBuyer(0, 0, 40, 1);
        x.buyer(0, 9, 10, 3);
        x.price(9, 10);
        x.bring(0);
        long was = x.digest();
        due.is("brings(0)", x.brings(0), 4);
        due.is("brings(9)", x.brings(9), 4);
        due.is("brings(10)", x.brings(10), 1);
        due.is("brings(39)", x.brings(39), 1);
        due.is("brings(40)", x.brings(40), 0);
        due.is("brings(99)", x.brings(99), 0);
        due.is("digest behind brings", x.digest(), was);
        refused(x, "brings(100)", x.brings(100), BAD, was);
        refused(x, "brings(-1)", x.brings(-1), BAD, was);
        due.is("status(0)", x.status(0), 2);
        x.market(1, 0);
        x.price(0, 1);
        for (int b = 0; b < 8; b++) x.buyer(4, 0, 99, 3);
        due.is("brings(0) for eight bags", x.brings(0), 48);
    }

    private static void come() {
        due.in("promise 19");
        HalfByFive x = new HalfByFive();
        x.market(20, 5);
        x.price(4, 20);
        x.price(7, 10);
        for (int kind = 0; kind < 6; kind++) {
            x.buyer(kind, 9, 40, 2);
            due.is("come(" + kind + ")", x.come(kind), 4);
        }
        x.rain(1 << 4);
        due.is("come(2) with rain", x.come(2), 0);
        x.market(3, 0);
        x.price(3, 30);
        x.price(6, 20);
        x.buyer(0, 4, 99, 2);
        x.buyer(0, 4, 99, 2);
        long was = x.digest();
        due.is("come(0)", x.come(0), 3);
        due.is("come(1)", x.come(1), 3);
        due.is("digest behind come", x.digest(), was);
        x.buyer(0, 0, 10, 1);
        due.is("come(2) of one who gets nothing", x.come(2), 6);
        x.theirs(3, 25);
        due.is("come(0) with a neighbour in 3", x.come(0), 4);
        due.is("come(1) with a neighbour in 3", x.come(1), 0);
        was = x.digest();
        refused(x, "come(3)", x.come(3), BAD, was);
        refused(x, "come(-1)", x.come(-1), BAD, was);
        due.is("status(0)", x.status(0), 2);
    }

    private static void stalls() {
        due.in("promise 20");
        HalfByFive x = withBuyer(0, 0, 50, 1);
        x.price(0, 3);
        x.theirs(0, 2);
        long was = x.digest();
        due.is("stalls(40, 20, 0)", x.stalls(40, 20, 0), 1);
        due.is("stalls(40, 20, 1)", x.stalls(40, 20, 1), 0);
        due.is("stalls(40, 0, 0)", x.stalls(40, 0, 0), 110);
        due.is("stalls(40, 0, 1)", x.stalls(40, 0, 1), 11);
        due.is("stalls(99, 99, 0)", x.stalls(99, 99, 0), 121);
        due.is("stalls(0, 0, 1)", x.stalls(0, 0, 1), 0);
        due.is("digest behind stalls", x.digest(), was);
        int[][] wrong = {{100, 0, 0}, {5, 6, 0}, {5, -1, 0}, {-1, -1, 0}, {5, 5, 2}, {5, 5, -1}};
        for (int[] w : wrong) refused(x, "stalls", x.stalls(w[0], w[1], w[2]), -10, was);
        due.is("status(0)", x.status(0), 6);
        due.is("an empty market", new HalfByFive().stalls(40, 20, 0), 121);
        restsWithWaiting();
        x.bring(0);
        // With nothing to sell here, only the neighbour cares: 20 in hour 0 while this one is at 40.
        due.is("stalls(40, 20, 0) with no punnets", x.stalls(40, 20, 0), 11 + 10);
        due.is("stalls(40, 20, 1) with no punnets", x.stalls(40, 20, 1), 0);
    }

    /**
     * One who waits, and comes in hour 0, which is wet: at 40 and 20 the stall sells to them only by
     * going down in hour 1 or 2 (then they come in hour 2), unless the neighbour is below it then.
     * NONE can not come: with the neighbour at the low price all day, the best hour of this stall rests.
     */
    private static void restsWithWaiting() {
        HalfByFive x = withBuyer(1, 0, 50, 1);
        x.rain(1);
        due.is("rests of one who waits for dry hours", x.stalls(40, 20, 0), 2 * 11);
        due.is("the first of these", x.stalls(40, 20, 1), 11);
        x.rain(4);
        // Now hour 2 is wet: in hour 0 they buy here for 40, if the neighbour is not below that,
        // and if the stall does not go down in hours 1 or 2; the neighbour would go below that.
        due.is("rests of one who is in hour 0 alone", x.stalls(40, 20, 0), 1);
        due.is("the first of these", x.stalls(40, 20, 1), 0);
    }

    private static void fraction(HalfByFive x, int o, long above, long below) {
        due.is("mean(" + o + ")", x.mean(o), 1);
        due.is("part(0) of mean(" + o + ")", x.part(0), above);
        due.is("part(1) of mean(" + o + ")", x.part(1), below);
    }

    private static void mean() {
        due.in("promise 21");
        HalfByFive x = new HalfByFive();
        fraction(x, 7, 0, 1);
        x.buyer(0, 0, 40, 1);
        fraction(x, 5, 20, 1);
        fraction(x, 0, 0, 1);
        fraction(x, 10, 40, 1);
        x.buyer(0, 9, 40, 1);
        fraction(x, 3, 24, 1);
        x.bring(1);
        fraction(x, 3, 102, 5);
        x.price(9, 39);
        fraction(x, 1, 4 * 100 + 39 * 9, 100);
        refused(x, "mean(11)", x.mean(11), BAD, x.digest());
        refused(x, "mean(-1)", x.mean(-1), BAD, x.digest());
        due.is("part(0)", x.part(0), 751);
        due.is("part(1)", x.part(1), 100);
        due.is("status(0)", x.status(0), 2);
        x.market(99, 0);
        x.price(0, 1);
        for (int b = 0; b < 8; b++) x.buyer(0, b, 1, 1);
        fraction(x, 3, 12, 5);
        x.bring(1);
        fraction(x, 9, 99999999, 100000000);
    }

    private static void shout() {
        due.in("promise 22");
        HalfByFive x = withBuyer(2, 3, 18, 3);
        x.price(0, 41);
        long was = x.digest();
        due.is("shout(3)", x.shout(3), 3 * 41);
        due.is("shout(2)", x.shout(2), 0);
        due.is("digest behind shout", x.digest(), was);
        x.price(0, 42);
        due.is("shout(3) at 42", x.shout(3), 0);
        was = x.digest();
        refused(x, "shout(10)", x.shout(10), -10000, was);
        refused(x, "shout(-1)", x.shout(-1), -10000, was);
        due.is("status(0)", x.status(0), 2);
        x.market(1, 0);
        x.price(0, 10);
        x.price(5, 40);
        x.buyer(0, 0, 8, 1);
        x.buyer(0, 5, 50, 1);
        due.is("shout(0) that loses", x.shout(0), -30);
        x.market(9, 0);
        x.price(4, 20);
        x.buyer(1, 2, 16, 2);
        due.is("shout(4) to one who waited for it", x.shout(4), 40);
        due.is("shout(2) to one who is not there", x.shout(2), 0);
    }

    private static void sold() {
        due.in("promise 23");
        HalfByFive x = new HalfByFive();
        int[][] said = {{0, 0}, {9, 99}, {9, 98}, {1, 1}, {2, 2}, {3, 3}};
        for (int i = 0; i < 6; i++) due.is("sold", x.sold(said[i][0], said[i][1]), i + 1);
        long was = x.digest();
        refused(x, "a 7th", x.sold(0, 0), FULL, was);
        refused(x, "a wrong 7th", x.sold(10, 0), BAD, was);
        due.is("count(5)", x.count(5), 6);
        due.is("status(2)", x.status(2), 1);
        x.forget();
        was = x.digest();
        int[][] wrong = {{-1, 0}, {10, 0}, {0, -1}, {0, 100}};
        for (int[] w : wrong) refused(x, "sold", x.sold(w[0], w[1]), BAD, was);
        due.is("status(0)", x.status(0), 5);
    }

    private static void forget() {
        due.in("promise 24");
        HalfByFive x = new HalfByFive();
        due.is("forget()", x.forget(), 0);
        x.sold(1, 1);
        x.sold(2, 2);
        due.is("forget()", x.forget(), 2);
        due.is("count(5)", x.count(5), 0);
        due.is("sold(3, 3)", x.sold(3, 3), 1);
    }

    private static void may(HalfByFive x, int hour, int n, int want) {
        x.forget();
        x.sold(hour, n);
        due.is("may(0) with sold(" + hour + ", " + n + ")", x.may(0), want);
    }

    private static void may() {
        due.in("promise 25");
        HalfByFive x = withBuyer(4, 3, 50, 1);
        due.is("may(0)", x.may(0), 63);
        may(x, 3, 1, 1 + 2 + 4);
        may(x, 3, 2, 32);
        may(x, 3, 0, 8 + 16);
        x.sold(6, 1);
        due.is("may(0) with two", x.may(0), 8);
        x.sold(6, 0);
        due.is("may(0) with three that can not be", x.may(0), 0);
        x.price(9, 25);
        may(x, 9, 2, 16);
        x.price(5, 39);
        may(x, 5, 1, 2);
        due.is("about(0, 0) behind may", x.about(0, 0), 4);
        x.rain(1 << 3);
        may(x, 3, 1, 4);
        long was = x.digest();
        refused(x, "may(1)", x.may(1), BAD, was);
        refused(x, "may(-1)", x.may(-1), BAD, was);
        due.is("status(0)", x.status(0), 2);
    }

    private static void drawn() {
        due.in("promise 26");
        // The seed 0 draws 0, 68, 88, 17.
        HalfByFive x = withBuyer(0, 0, 40, 1);
        due.is("drawn(0, 0, 100)", x.drawn(0, 0, 100), 0);
        int[][] want = {{0, 0}, {1, 1}, {17, 1}, {18, 2}, {68, 2}, {69, 3}, {88, 3}, {89, 4}, {100, 4}};
        for (int[] w : want) due.is("drawn(0, 4, " + w[0] + ")", x.drawn(0, 4, w[0]), 40 * w[1]);
        x.buyer(0, 1, 40, 2);
        due.is("drawn(0, 1, 68)", x.drawn(0, 1, 68), 40);
        due.is("drawn(0, 2, 68)", x.drawn(0, 2, 68), 40 + 80);
        due.is("drawn(0, 2, 69)", x.drawn(0, 2, 69), 120 + 80);
        due.is("drawn(999999, 30, 100)", x.drawn(999999, 30, 100), 30 * 120);
        x.price(9, 1);
        due.is("drawn with nothing learnt", x.drawn(5, 30, 100), 30 * 120);
        long was = x.digest();
        int[][] wrong = {{-1, 0, 0}, {1000000, 0, 0}, {0, -1, 0}, {0, 31, 0}, {0, 0, -1}, {0, 0, 101}};
        for (int[] w : wrong) refused(x, "drawn", x.drawn(w[0], w[1], w[2]), BAD, was);
        due.is("status(0)", x.status(0), 6);
    }

    private static void part() {
        due.in("promise 27");
        HalfByFive x = new HalfByFive();
        due.is("part(2)", x.part(2), BAD);
        due.is("part(-1)", x.part(-1), BAD);
        due.is("status(0)", x.status(0), 2);
        x.buyer(0, 0, 99, 3);
        x.price(0, 11);
        fraction(x, 1, 33, 10);
        x.image(0);
        fraction(x, 2, 33, 5);
        x.from(0);
        x.market(5, 5);
        due.is("part(0) stays", x.part(0), 33);
        due.is("part(1) stays", x.part(1), 5);
    }

    private static void image() {
        due.in("promise 28");
        HalfByFive x = new HalfByFive();
        due.is("image(2)", x.image(2), BAD);
        due.is("image(-1)", x.image(-1), BAD);
        due.is("status(0)", x.status(0), 2);
        due.is("image(0)", x.image(0), 1);
        x.bring(5);
        due.is("image(1)", x.image(1), 1);
        x.bring(6);
        due.is("image(1) again", x.image(1), 1);
        x.bring(7);
        x.from(0);
        due.is("count(0) of image 0", x.count(0), 20);
        x.from(1);
        due.is("count(0) of image 1", x.count(0), 6);
    }

    private static void from() {
        due.in("promise 29");
        HalfByFive x = crowd();
        x.rain(5);
        x.theirs(4, 4);
        x.sold(3, 2);
        x.price(9, 1);
        x.day();
        x.day();
        long was = x.digest();
        x.image(1);
        due.is("undo()", x.undo(), x.count(3));
        x.undo();
        x.sold(4, 4);
        x.market(9, 9);
        x.buyer(5, 5, 5, 1);
        due.is("from(1)", x.from(1), 1);
        due.is("digest", x.digest(), was);
        due.is("count(6)", x.count(6), 2);
        x.undo();
        x.undo();
        due.is("about(0, 0) behind two undone days", x.about(0, 0), 0);
        due.is("about(3, 0) behind two undone days", x.about(3, 0), 2);
        x.price(0, 99);
        due.is("from(1) again", x.from(1), 1);
        due.is("digest again", x.digest(), was);
        x.type('a');
        x.from(1);
        due.is("the text stays", x.count(7), 1);
        x.clear();
        refused(x, "from(0)", x.from(0), NO, was);
        refused(x, "from(2)", x.from(2), BAD, was);
        refused(x, "from(-1)", x.from(-1), BAD, was);
        due.is("status(0)", x.status(0), 2);
        due.is("status(1)", x.status(1), 1);
    }

    private static void status() {
        due.in("promise 30");
        HalfByFive x = new HalfByFive();
        due.is("status(3)", x.status(3), -1);
        due.is("status(-1)", x.status(-1), -1);
        due.is("status(0)", x.status(0), 2);
        x.undo();
        x.from(1);
        due.is("status(1)", x.status(1), 2);
        for (int i = 0; i < 9; i++) x.sold(0, 0);
        due.is("status(2)", x.status(2), 3);
        x.stalls(1, 2, 0);
        x.shout(10);
        x.part(7);
        x.count(8);
        x.image(5);
        due.is("status(0)", x.status(0), 7);
        x.image(0);
        x.from(0);
        x.market(1, 1);
        Due.write(x, "market 1 1;");
        x.read();
        due.is("status(0)", x.status(0), 7);
        due.is("status(1)", x.status(1), 2);
        due.is("status(2)", x.status(2), 3);
    }

    private static void count() {
        due.in("promise 31");
        HalfByFive x = new HalfByFive();
        x.market(9, 2);
        x.buyer(0, 1, 60, 2);
        x.buyer(0, 2, 60, 1);
        x.day();
        x.day();
        x.sold(1, 1);
        x.type(1);
        x.type(2);
        x.type(3);
        counts(x, 9, 2, 2, 240, 12, 1, 2, 3);
        due.is("count(8)", x.count(8), BAD);
        due.is("count(-1)", x.count(-1), BAD);
        due.is("status(0)", x.status(0), 2);
    }

    private static void digest() {
        due.in("promise 32");
        HalfByFive x = new HalfByFive();
        due.is("digest()", x.digest(), Due.fold(20, 0, 0, 0, 0, 0, 0, 0,
            40, 40, 40, 40, 40, 40, 40, 40, 40, 40, 0, 0, 0, 0, 0, 0, 0, 0, 0, 0, 0, 0, 1));
        x.market(9, 2);
        x.price(8, 30);
        x.theirs(1, 7);
        x.theirs(9, 8);
        x.rain(6);
        x.buyer(1, 2, 60, 1);
        x.buyer(5, 3, 61, 2);
        x.mean(5);
        x.day();
        x.sold(4, 5);
        x.sold(6, 7);
        x.type(1);
        // Hour 2 is wet; the pair pays 60 in hour 3 and takes 2 at 40: 80 by a half is the mean.
        due.is("digest()", x.digest(), Due.fold(9, 2, 2, 80, 7, 2, 1, 1,
            40, 40, 40, 40, 40, 40, 40, 40, 30, 30, 0, 7, 0, 0, 0, 0, 0, 0, 0, 8, 6,
            0, 2, 60, 1, 5, 3, 61, 2, 4, 5, 6, 7, 40, 1));
        due.is("status(0)", x.status(0), 0);
    }
}
