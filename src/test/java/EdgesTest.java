/**
 * The boundary cases of the document but those of the text (TextEdgesTest) and of the ranges
 * (RefusedTest): one function for each sentence that names one, which it quotes.
 */
public final class EdgesTest {
    private static final int NO = HalfByFive.NO;
    private static final Due due = new Due();

    public static void main(String[] args) {
        atFirst();
        marketSetsAllElseAsAtFirst();
        punnetsOfTheMorning();
        pricesFromAnHourOn();
        theirPriceInAnHour();
        rainAsBits();
        buyersAsTheyCome();
        plainPays();
        waitsLooksTwoHoursOn();
        waitsNineAtMost();
        waitsOnlyIfLower();
        cookPaysTwice();
        schoolNotAheadOfSix();
        schoolPaysFiveMore();
        bagInHourNine();
        bagPaysHalfCut();
        bagTakesTwiceAsMany();
        pairPaysFiveMore();
        pairTakesTwo();
        byTheirNumbers();
        rainKeepsAway();
        theirPriceBelow();
        theirPriceJustPaid();
        theirPriceOfNone();
        theirPunnetsHaveNoEnd();
        priceJustPaid();
        whatThereIs();
        goneInAnHour();
        thrownAway();
        takings();
        learntLowerThanHalf();
        learntInALaterHour();
        learntAtTheStallAlone();
        learntByTheseKindsAlone();
        learntByOneWhoWaits();
        nothingIsChanged();
        toOneWhoStaysAway();
        bestPairs();
        bestOfLikeOnesTheFirst();
        bringAtACost();
        bringOfLikeOnesTheFewest();
        comeGetsMost();
        comeAtTheLowestPrice();
        comeThenTheFirst();
        comeWerePlain();
        stallsRest();
        stallsOfLowNone();
        stallsNeverRunOut();
        meanOfNoneAndAll();
        meanInLowestTerms();
        shoutFiveMore();
        shoutBelowNothing();
        soldAsTheyCome();
        mayOfNoSold();
        mayAllSoldAreSo();
        drawnNoneAndAll();
        drawnLessThan();
        drawnLeftOver();
        daysAddToTotals();
        undoEightAtMost();
        undoBehindABuyer();
        undoKindsAndTotalsAlone();
        imagesKeepAllBut();
        imagesKeepWhatMayBeUndone();
        imagesOfDaysThatOthersFollow();
        imagesAreKeptAgain();
        statusCounts();
        fractionAtFirst();
        clearOfEmptyAndFull();
        digestOfEmptyAndFull();
        due.end();
    }

    // ---- helpers

    private static HalfByFive stall(int punnets, int heat, int price) {
        HalfByFive x = new HalfByFive();
        x.market(punnets, heat);
        x.price(0, price);
        return x;
    }

    private static HalfByFive one(int heat, int price, int kind, int hour, int worth, int wants) {
        HalfByFive x = stall(99, heat, price);
        x.buyer(kind, hour, worth, wants);
        return x;
    }

    private static void pays(int heat, int kind, int hour, int worth, int want) {
        HalfByFive x = one(heat, 40, kind, hour, worth, 1);
        due.is("kind " + kind + " in " + hour + " at heat " + heat + ", worth " + worth, x.to(0, 1), want);
    }

    private static void prices(HalfByFive x, int... want) {
        for (int h = 0; h < 10; h++) due.is("of(" + h + ", 0)", x.of(h, 0), want[h]);
    }

    private static void setPrices(HalfByFive x, int... prices) {
        for (int h = 0; h < 10; h++) x.price(h, prices[h]);
    }

    private static void gets(HalfByFive x, int... want) {
        for (int b = 0; b < want.length; b++) due.is("to(" + b + ", 2)", x.to(b, 2), want[b]);
    }

    private static void served(HalfByFive x, int... want) {
        for (int b = 0; b < want.length; b++) due.is("to(" + b + ", 3)", x.to(b, 3), want[b]);
    }

    private static void fraction(HalfByFive x, int o, long above, long below) {
        due.is("mean(" + o + ")", x.mean(o), 1);
        due.is("part(0) behind mean(" + o + ")", x.part(0), above);
        due.is("part(1) behind mean(" + o + ")", x.part(1), below);
    }

    private static void counts(HalfByFive x, int... want) {
        for (int i = 0; i < want.length; i++) due.is("count(" + i + ")", x.count(i), want[i]);
    }

    // ---- promises 1 to 9

    private static void atFirst() {
        due.in("1: 'As told; no BUYERS' (20, 40 each, 0, 0, 0 each at first)");
        HalfByFive x = new HalfByFive();
        counts(x, 20, 0, 0, 0, 0, 0, 0, 0);
        prices(x, 40, 40, 40, 40, 40, 40, 40, 40, 40, 40);
        for (int h = 0; h < 10; h++) {
            due.is("of(" + h + ", 1)", x.of(h, 1), 0);
            due.is("of(" + h + ", 2)", x.of(h, 2), 0);
        }
        due.is("about(0, 0)", x.about(0, 0), HalfByFive.BAD);
        due.is("status(0)", x.status(0), 1);
        due.is("undo()", x.undo(), NO);
        due.is("forget()", x.forget(), 0);
        due.is("clear()", x.clear(), 0);
        HalfByFive y = new HalfByFive();
        due.is("another object's status", y.status(0) + y.status(1), 0);
    }

    private static void marketSetsAllElseAsAtFirst() {
        due.in("2: 'all else as at first (but for IMAGES, THE TEXT, THE FRACTION, STATUS)'");
        HalfByFive x = one(3, 7, 1, 2, 50, 3);
        x.theirs(9, 9);
        x.theirs(0, 9);
        x.rain(1023);
        x.sold(0, 5);
        x.day();
        x.type('m');
        x.rain(0);
        x.mean(5);
        x.undo();
        x.undo();
        x.image(0);
        x.rain(1023);
        for (int b = 1; b < 8; b++) x.buyer(0, 0, 0, 1);
        due.is("market(0, 0)", x.market(0, 0), 8);
        counts(x, 0, 0, 0, 0, 0, 0, 0, 1);
        prices(x, 40, 40, 40, 40, 40, 40, 40, 40, 40, 40);
        for (int h = 0; h < 10; h++) {
            due.is("of(" + h + ", 1)", x.of(h, 1), 0);
            due.is("of(" + h + ", 2)", x.of(h, 2), 0);
        }
        due.is("part(0)", x.part(0), 21);
        due.is("part(1)", x.part(1), 2);
        due.is("status(1)", x.status(1), 1);
        due.is("market(99, 9)", x.market(99, 9), 0);
        counts(x, 99, 9);
        due.is("from(0)", x.from(0), 1);
        counts(x, 99, 3, 1, 0, 0, 1);
    }

    private static void punnetsOfTheMorning() {
        due.in("3: PUNNETS 0 .. 99");
        HalfByFive x = new HalfByFive();
        due.is("bring(0)", x.bring(0), 20);
        due.is("takes(1)", x.takes(1), 0);
        due.is("bring(99)", x.bring(99), 0);
        due.is("takes(1)", x.takes(1), 99);
        due.is("bring(99)", x.bring(99), 99);
    }

    private static void pricesFromAnHourOn() {
        due.in("4: 'The PRICE from an HOUR on'");
        HalfByFive x = new HalfByFive();
        due.is("price(9, 0)", x.price(9, 0), 40);
        prices(x, 40, 40, 40, 40, 40, 40, 40, 40, 40, 0);
        due.is("price(1, 99)", x.price(1, 99), 40);
        prices(x, 40, 99, 99, 99, 99, 99, 99, 99, 99, 99);
        due.is("price(0, 0)", x.price(0, 0), 40);
        prices(x, 0, 0, 0, 0, 0, 0, 0, 0, 0, 0);
        due.is("price(9, 1)", x.price(9, 1), 0);
        due.is("price(9, 1)", x.price(9, 1), 1);
    }

    private static void theirPriceInAnHour() {
        due.in("5: 'The NEIGHBOUR's PRICE in an HOUR (0: none)'");
        HalfByFive x = new HalfByFive();
        due.is("theirs(0, 99)", x.theirs(0, 99), 0);
        due.is("theirs(9, 1)", x.theirs(9, 1), 0);
        for (int h = 0; h < 10; h++) due.is("of(" + h + ", 1)", x.of(h, 1), h == 0 ? 99 : h == 9 ? 1 : 0);
        due.is("theirs(0, 0)", x.theirs(0, 0), 99);
        due.is("theirs(0, 0)", x.theirs(0, 0), 0);
        due.is("of(9, 1)", x.of(9, 1), 1);
    }

    private static void rainAsBits() {
        due.in("6: 'RAIN (bits)' 0 .. 1023");
        HalfByFive x = new HalfByFive();
        int was = 0;
        for (int h = 0; h < 10; h++) {
            due.is("rain", x.rain(1 << h), was);
            was = 1 << h;
            for (int k = 0; k < 10; k++) due.is("of(" + k + ", 2)", x.of(k, 2), k == h ? 1 : 0);
        }
        due.is("rain(1023)", x.rain(1023), 512);
        for (int k = 0; k < 10; k++) due.is("of(" + k + ", 2)", x.of(k, 2), 1);
        due.is("rain(0)", x.rain(0), 1023);
    }

    private static void buyersAsTheyCome() {
        due.in("7: 'BUYERS 0 .. 7, as they come'");
        HalfByFive x = new HalfByFive();
        for (int b = 0; b < 8; b++) due.is("buyer", x.buyer(b % 6, 9 - b, 99 - b, 1 + b % 3), b);
        due.is("a 9th", x.buyer(0, 0, 0, 1), HalfByFive.FULL);
        for (int b = 0; b < 8; b++) {
            int[] want = {b % 6, 9 - b, 99 - b, 1 + b % 3};
            for (int i = 0; i < 4; i++) due.is("about(" + b + ", " + i + ")", x.about(b, i), want[i]);
        }
        due.is("count(2)", x.count(2), 8);
        due.is("status(2)", x.status(2), 1);
    }

    // ---- the kinds (promises 14, 16)

    private static void plainPays() {
        due.in("PLAIN: 'WORTH, less HEAT times the HOUR in which one buys, 0 at least'");
        pays(0, 0, 9, 99, 99);
        pays(9, 0, 0, 99, 99);
        pays(9, 0, 9, 99, 18);
        pays(9, 0, 9, 82, 1);
        pays(9, 0, 9, 81, 0);
        pays(9, 0, 9, 80, 0);
        pays(9, 0, 9, 0, 0);
        pays(1, 0, 1, 0, 0);
        HalfByFive x = one(9, 0, 0, 9, 0, 3);
        due.is("one who pays 0 at most, at 0", x.to(0, 2), 3);
        x.price(9, 1);
        due.is("one who pays 0 at most, at 1", x.to(0, 2), 0);
    }

    private static void waitsLooksTwoHoursOn() {
        due.in("WAITS: 'two HOURS later'; what one pays is by the HOUR in which one buys");
        for (int h = 0; h <= 7; h++) {
            HalfByFive x = one(1, 40, 1, h, 99, 1);
            x.price(h + 2, 39);
            due.is("lower from " + (h + 2) + " on, coming in " + h, x.to(0, 0), h + 2);
            due.is("pays", x.to(0, 1), 99 - (h + 2));
            x.price(h + 2, 40);
            x.price(h + 1, 39);
            x.price(h + 2, 40);
            due.is("lower in the next hour alone", x.to(0, 0), h);
            if (h < 7) {
                x.price(h + 1, 40);
                x.price(h + 3, 39);
                due.is("lower in the third hour", x.to(0, 0), h);
            }
        }
    }

    private static void waitsNineAtMost() {
        due.in("WAITS: '(9 at most)'");
        HalfByFive x = one(9, 40, 1, 8, 99, 1);
        x.price(9, 39);
        due.is("coming in 8", x.to(0, 0), 9);
        due.is("pays", x.to(0, 1), 18);
        x = one(9, 40, 1, 9, 99, 1);
        x.price(9, 0);
        due.is("coming in 9", x.to(0, 0), 9);
        x = one(0, 40, 1, 8, 99, 1);
        due.is("coming in 8, no lower", x.to(0, 0), 8);
    }

    private static void waitsOnlyIfLower() {
        due.in("WAITS: 'if the PRICE is lower then, else as PLAIN'");
        int[][] want = {{39, 5}, {40, 3}, {41, 3}, {0, 5}, {99, 3}};
        for (int[] w : want) {
            HalfByFive x = one(2, 40, 1, 3, 50, 2);
            x.price(5, w[0]);
            due.is("with " + w[0] + " two hours later", x.to(0, 0), w[1]);
            due.is("pays", x.to(0, 1), 50 - 2 * w[1]);
            due.is("takes", x.about(0, 4), 2);
        }
        HalfByFive x = one(0, 0, 1, 3, 50, 2);
        due.is("nothing is lower than 0", x.to(0, 0), 3);
    }

    private static void cookPaysTwice() {
        due.in("COOK: 'as PLAIN; twice PLAIN; as PLAIN'");
        pays(0, 2, 0, 99, 198);
        pays(9, 2, 9, 81, 0);
        pays(9, 2, 9, 82, 2);
        pays(9, 2, 9, 10, 0);
        HalfByFive x = one(0, 40, 2, 3, 50, 3);
        x.price(5, 1);
        due.is("does not wait", x.to(0, 0), 3);
        due.is("takes", x.about(0, 4), 3);
    }

    private static void schoolNotAheadOfSix() {
        due.in("SCHOOL: 'as WAITS, but not ahead of HOUR 6'");
        int[] still = {6, 6, 6, 6, 6, 6, 6, 7, 8, 9};
        int[] falling = {6, 6, 6, 6, 6, 7, 8, 9, 9, 9};
        for (int h = 0; h < 10; h++) {
            HalfByFive x = one(0, 40, 3, h, 50, 1);
            due.is("coming in " + h + ", no lower", x.to(0, 0), still[h]);
            setPrices(x, 50, 49, 48, 47, 46, 45, 44, 43, 42, 41);
            due.is("coming in " + h + ", ever lower", x.to(0, 0), falling[h]);
        }
        HalfByFive x = one(0, 40, 3, 0, 50, 1);
        x.price(8, 1);
        due.is("WAITS looks from the hour in which one comes", x.to(0, 0), 6);
    }

    private static void schoolPaysFiveMore() {
        due.in("SCHOOL: '5 more' (than WAITS in the HOUR in which one buys)");
        pays(0, 3, 0, 99, 104);
        pays(9, 3, 0, 99, 99 - 54 + 5);
        pays(9, 3, 0, 55, 6);
        pays(9, 3, 0, 54, 5);
        pays(9, 3, 0, 53, 5);
        pays(9, 3, 9, 0, 5);
        HalfByFive x = one(0, 40, 3, 6, 35, 3);
        due.is("35 and 5 at 40", x.to(0, 2), 3);
        x.price(0, 41);
        due.is("35 and 5 at 41", x.to(0, 2), 0);
    }

    private static void bagInHourNine() {
        due.in("BAG: 'in HOUR 9'");
        for (int h = 0; h < 10; h++) {
            HalfByFive x = one(0, 0, 4, h, 0, 1);
            due.is("coming in " + h, x.to(0, 0), 9);
            x.price(9, 99);
            due.is("coming in " + h + ", dear in 9", x.to(0, 0), 9);
            due.is("of(9, 3)", x.of(9, 3), 0);
        }
    }

    private static void bagPaysHalfCut() {
        due.in("BAG: 'half (cut) of WAITS'");
        pays(0, 4, 0, 99, 49);
        pays(0, 4, 0, 98, 49);
        pays(0, 4, 0, 1, 0);
        pays(0, 4, 0, 0, 0);
        pays(9, 4, 0, 84, 1);
        pays(9, 4, 0, 83, 1);
        pays(9, 4, 0, 82, 0);
        pays(9, 4, 0, 79, 0);
    }

    private static void bagTakesTwiceAsMany() {
        due.in("BAG: 'twice as many'");
        for (int wants = 1; wants <= 3; wants++) {
            HalfByFive x = one(0, 1, 4, 0, 99, wants);
            due.is("about(0, 4)", x.about(0, 4), 2 * wants);
            due.is("about(0, 3)", x.about(0, 3), wants);
            due.is("to(0, 2)", x.to(0, 2), 2 * wants);
        }
    }

    private static void pairPaysFiveMore() {
        due.in("PAIR: 'as PLAIN; 5 more'");
        pays(0, 5, 0, 99, 104);
        pays(9, 5, 9, 82, 6);
        pays(9, 5, 9, 81, 5);
        pays(9, 5, 9, 80, 5);
        HalfByFive x = one(0, 40, 5, 3, 50, 1);
        x.price(5, 1);
        due.is("does not wait", x.to(0, 0), 3);
    }

    private static void pairTakesTwo() {
        due.in("PAIR: 'two, if WANTS is 1, else as PLAIN'");
        for (int wants = 1; wants <= 3; wants++) {
            HalfByFive x = one(0, 1, 5, 0, 99, wants);
            due.is("about(0, 4)", x.about(0, 4), Math.max(2, wants));
            due.is("to(0, 2)", x.to(0, 2), Math.max(2, wants));
        }
    }

    // ---- a day (promises 11, 13, 15, 16)

    private static void byTheirNumbers() {
        due.in("A DAY: 'HOUR by HOUR; those who buy in that HOUR by their numbers'");
        HalfByFive x = stall(1, 0, 40);
        x.buyer(0, 9, 50, 1);
        x.buyer(0, 0, 50, 1);
        x.buyer(0, 0, 50, 1);
        gets(x, 0, 1, 0);
        x = stall(1, 0, 40);
        x.price(2, 30);
        x.buyer(1, 0, 50, 1);
        x.buyer(0, 2, 50, 1);
        gets(x, 1, 0);
        x = stall(1, 0, 40);
        x.price(2, 30);
        x.buyer(0, 2, 50, 1);
        x.buyer(1, 0, 50, 1);
        gets(x, 1, 0);
        x = stall(3, 0, 1);
        for (int b = 0; b < 8; b++) x.buyer(0, 7 - b, 50, 1);
        gets(x, 0, 0, 0, 0, 0, 1, 1, 1);
    }

    private static void rainKeepsAway() {
        due.in("A DAY: 'if it RAINS, only COOKS and BAGS (KINDS 2, 4) come at all'");
        int[] comes = {0, 0, 1, 0, 1, 0};
        for (int kind = 0; kind < 6; kind++) {
            HalfByFive x = one(0, 1, kind, 9, 99, 1);
            x.rain(1 << 9);
            due.is("kind " + kind + " in the wet hour 9", x.to(0, 3), comes[kind]);
            x.rain(1023 - (1 << 9));
            due.is("kind " + kind + " in the dry hour 9", x.to(0, 3), 1);
            x.price(0, 2);
            x.theirs(9, 1);
            x.rain(1 << 9);
            due.is("kind " + kind + " next door in the wet hour 9", x.to(0, 3), comes[kind]);
        }
        HalfByFive x = one(0, 40, 1, 3, 99, 1);
        x.price(5, 30);
        x.rain(1 << 3);
        due.is("rain in the hour in which one comes and waits", x.to(0, 2), 1);
        x.rain(1 << 5);
        due.is("rain in the hour in which one buys", x.to(0, 2), 0);
        x = one(0, 40, 0, 0, 99, 1);
        x.rain(1);
        due.is("rain in hour 0", x.to(0, 2), 0);
        x.rain(1022);
        due.is("rain in all but hour 0", x.to(0, 2), 1);
    }

    private static void theirPriceBelow() {
        due.in("A DAY: 'if the NEIGHBOUR has one below that'");
        HalfByFive x = one(0, 40, 0, 3, 99, 2);
        int[][] want = {{41, 2}, {40, 2}, {39, 0}, {1, 0}};
        for (int[] w : want) {
            x.theirs(3, w[0]);
            due.is("got with the neighbour at " + w[0], x.to(0, 2), w[1]);
            due.is("served", x.to(0, 3), 1);
            due.is("takes(0)", x.takes(0), 40 * w[1]);
        }
        x.theirs(3, 0);
        x.theirs(2, 1);
        x.theirs(4, 1);
        due.is("the neighbour in other hours alone", x.to(0, 2), 2);
    }

    private static void theirPriceJustPaid() {
        due.in("A DAY: 'and what one pays at most is no less than the NEIGHBOUR's, goes there'");
        HalfByFive x = one(0, 40, 0, 3, 30, 2);
        x.theirs(3, 30);
        due.is("pays 30, at 30", x.to(0, 3), 1);
        due.is("got at the stall", x.to(0, 2), 0);
        x.theirs(3, 31);
        due.is("pays 30, at 31", x.to(0, 3), 0);
        x.theirs(3, 29);
        due.is("pays 30, at 29", x.to(0, 3), 1);
        x.theirs(3, 0);
        due.is("pays 30, none there", x.to(0, 3), 0);
    }

    private static void theirPriceOfNone() {
        due.in("A NEIGHBOUR's PRICES '(1 .. 99; 0: has none in that HOUR'");
        HalfByFive x = one(0, 1, 0, 3, 99, 1);
        x.theirs(3, 0);
        due.is("got at 1 with none there", x.to(0, 2), 1);
        x.price(0, 2);
        x.theirs(3, 1);
        due.is("got at 2 with 1 there", x.to(0, 2), 0);
        due.is("served", x.to(0, 3), 1);
        x.price(0, 0);
        due.is("got at 0 with 1 there", x.to(0, 2), 1);
    }

    private static void theirPunnetsHaveNoEnd() {
        due.in("A DAY: who 'goes there (and is SERVED there)' takes nothing from the stall");
        HalfByFive x = stall(0, 0, 40);
        x.theirs(3, 39);
        for (int b = 0; b < 8; b++) x.buyer(0, 3, 50, 3);
        served(x, 1, 1, 1, 1, 1, 1, 1, 1);
        due.is("takes(0)", x.takes(0), 0);
        x.bring(5);
        due.is("takes(1)", x.takes(1), 5);
        due.is("of(3, 3)", x.of(3, 3), 0);
    }

    private static void priceJustPaid() {
        due.in("A DAY: 'if the PRICE is no more than what one pays at most'");
        HalfByFive x = one(0, 40, 0, 3, 40, 1);
        due.is("pays 40, at 40", x.to(0, 2), 1);
        x.price(0, 41);
        due.is("pays 40, at 41", x.to(0, 2), 0);
        due.is("served", x.to(0, 3), 0);
        x.price(0, 39);
        due.is("pays 40, at 39", x.to(0, 2), 1);
        x = one(0, 99, 0, 3, 99, 1);
        due.is("pays 99, at 99", x.to(0, 2), 1);
    }

    private static void whatThereIs() {
        due.in("A DAY: 'takes as many as one takes, or what there is (SERVED, if it is more than 0)'");
        HalfByFive x = stall(0, 0, 40);
        x.buyer(0, 0, 50, 3);
        x.buyer(0, 0, 50, 3);
        int[][] want = {{0, 0, 0}, {1, 1, 0}, {2, 2, 0}, {3, 3, 0}, {4, 3, 1}, {5, 3, 2}, {6, 3, 3}, {7, 3, 3}};
        for (int[] w : want) {
            x.bring(w[0]);
            gets(x, w[1], w[2]);
            served(x, w[1] > 0 ? 1 : 0, w[2] > 0 ? 1 : 0);
            due.is("of(0, 3)", x.of(0, 3), w[1] + w[2]);
            due.is("takes(0)", x.takes(0), 40 * (w[1] + w[2]));
            due.is("takes(1)", x.takes(1), w[0] - w[1] - w[2]);
        }
    }

    private static void goneInAnHour() {
        due.in("13: 'how many PUNNETS go at the stall in a DAY'");
        for (int h = 0; h < 10; h++) {
            due.is("of(" + h + ", 3), asked first", one(0, 40, 0, h, 50, 3).of(h, 3), 3);
            due.is("of another hour", one(0, 40, 0, h, 50, 3).of((h + 1) % 10, 3), 0);
        }
        HalfByFive x = one(0, 40, 4, 0, 80, 3);
        x.buyer(0, 9, 50, 2);
        due.is("of(9, 3) of two", x.of(9, 3), 8);
        x.theirs(9, 39);
        due.is("of(9, 3) with both next door", x.of(9, 3), 0);
    }

    private static void thrownAway() {
        due.in("A DAY: 'What is left behind HOUR 9 is THROWN away'");
        HalfByFive x = one(0, 40, 0, 9, 50, 3);
        due.is("takes(1) of 99", x.takes(1), 96);
        x.bring(3);
        due.is("takes(1) of 3", x.takes(1), 0);
        x.bring(0);
        due.is("takes(1) of 0", x.takes(1), 0);
        due.is("takes(1) of all 20", new HalfByFive().takes(1), 20);
    }

    private static void takings() {
        due.in("A DAY: 'TAKINGS: each PUNNET sold at the PRICE'");
        HalfByFive x = stall(99, 0, 99);
        for (int b = 0; b < 8; b++) x.buyer(2, b, 99, 3);
        due.is("the most", x.takes(0), 24 * 99);
        due.is("day()", x.day(), 24 * 99);
        due.is("takes(1)", x.takes(1), 75);
        setPrices(x, 0, 1, 2, 3, 4, 5, 6, 7, 8, 9);
        due.is("by hours", x.takes(0), 3 * 28);
        x.price(0, 0);
        due.is("for nothing", x.takes(0), 0);
        due.is("takes(1)", x.takes(1), 75);
    }

    // ---- learnt (promise 11)

    private static int behindADay(int kind, int hour, int worth, int... prices) {
        HalfByFive x = one(0, 40, kind, hour, worth, 1);
        setPrices(x, prices);
        x.day();
        return x.about(0, 0);
    }

    private static void learntLowerThanHalf() {
        due.in("LEARNT: 'lower than half (cut) of what one paid for one'");
        int[][] want = {{40, 19, 1}, {40, 20, 0}, {40, 21, 0}, {41, 19, 1}, {41, 20, 0}, {42, 20, 1},
            {99, 48, 1}, {99, 49, 0}, {2, 0, 1}, {1, 0, 0}, {0, 0, 0}, {3, 0, 1}, {3, 1, 0}};
        for (int[] w : want) {
            int kind = behindADay(0, 4, 99, w[0], w[0], w[0], w[0], w[0], w[0], w[0], w[0], w[0], w[1]);
            due.is(w[0] + " with " + w[1] + " later", kind, w[2]);
        }
        HalfByFive x = one(0, 40, 0, 0, 99, 3);
        x.price(5, 20);
        x.day();
        due.is("by one PUNNET's price, not that of all three", x.about(0, 0), 0);
    }

    private static void learntInALaterHour() {
        due.in("LEARNT: 'in a later HOUR'");
        due.is("in the last hour", behindADay(0, 8, 99, 40, 40, 40, 40, 40, 40, 40, 40, 40, 9), 1);
        due.is("in the next hour", behindADay(0, 3, 99, 40, 40, 40, 40, 9, 40, 40, 40, 40, 40), 1);
        due.is("in the hour ahead", behindADay(0, 3, 99, 40, 40, 9, 40, 40, 40, 40, 40, 40, 40), 0);
        due.is("in hours ahead", behindADay(0, 9, 99, 9, 9, 9, 9, 9, 9, 9, 9, 9, 40), 0);
        due.is("in one hour of many", behindADay(0, 0, 99, 40, 40, 40, 40, 40, 19, 40, 40, 40, 40), 1);
    }

    private static void learntAtTheStallAlone() {
        due.in("LEARNT: 'who bought at the stall'");
        HalfByFive x = one(0, 40, 0, 0, 99, 1);
        x.price(9, 1);
        x.theirs(0, 39);
        x.day();
        due.is("bought next door", x.about(0, 0), 0);
        x.theirs(0, 40);
        x.bring(0);
        x.day();
        due.is("found nothing left", x.about(0, 0), 0);
        x.bring(1);
        x.rain(1);
        x.day();
        due.is("stayed away", x.about(0, 0), 0);
        x.rain(0);
        x.theirs(0, 0);
        x.price(0, 99);
        x.price(9, 1);
        x.buyer(0, 0, 98, 1);
        x.day();
        due.is("bought the last one at 99", x.about(0, 0), 1);
        due.is("would not pay 99", x.about(1, 0), 0);
    }

    private static void learntByTheseKindsAlone() {
        due.in("LEARNT: 'a PLAIN one, a COOK or a PAIR .. WAITS from then on (KIND 1)'");
        int[] want = {1, 1, 1, 3, 4, 1};
        for (int kind = 0; kind < 6; kind++) {
            HalfByFive x = one(0, 40, kind, 4, 99, 2);
            x.price(8, 1);
            x.day();
            due.is("kind " + kind, x.about(0, 0), want[kind]);
            int[] stays = {4, 99, 2};
            for (int i = 0; i < 3; i++) due.is("about(0, " + (i + 1) + ")", x.about(0, i + 1), stays[i]);
        }
        HalfByFive x = stall(99, 0, 40);
        x.price(9, 1);
        for (int b = 0; b < 8; b++) x.buyer(b < 6 ? b : 0, 0, 99, 1);
        x.day();
        int[] all = {1, 1, 1, 3, 4, 1, 1, 1};
        for (int b = 0; b < 8; b++) due.is("of eight, " + b, x.about(b, 0), all[b]);
    }

    private static void learntByOneWhoWaits() {
        due.in("LEARNT: 'one who WAITS (KIND 1 alone) and got nothing anywhere is PLAIN from then on'");
        for (int kind = 0; kind < 6; kind++) {
            HalfByFive x = one(0, 99, kind, 4, 1, 1);
            x.day();
            due.is("kind " + kind + " that got nothing", x.about(0, 0), kind == 1 ? 0 : kind);
        }
        HalfByFive x = one(0, 40, 1, 4, 40, 1);
        x.day();
        due.is("one that got one", x.about(0, 0), 1);
        x.theirs(4, 39);
        x.day();
        due.is("one that got one next door", x.about(0, 0), 1);
        x.theirs(4, 0);
        x.rain(1 << 4);
        x.day();
        due.is("one that stayed away", x.about(0, 0), 0);
        x = stall(1, 0, 40);
        x.buyer(1, 0, 40, 1);
        x.buyer(1, 0, 40, 1);
        x.day();
        due.is("one that got the last one", x.about(0, 0), 1);
        due.is("one that got nothing behind them", x.about(1, 0), 0);
        x = one(0, 40, 1, 0, 30, 1);
        x.price(1, 10);
        x.price(2, 40);
        x.day();
        due.is("PLAIN behind the first day", x.about(0, 0), 0);
        x.price(0, 30);
        x.price(9, 1);
        x.day();
        due.is("WAITS again behind the second", x.about(0, 0), 1);
    }

    // ---- what a day would be (promises 13 to 16)

    private static void nothingIsChanged() {
        due.in("'Nothing is changed by these: a DAY from what is now'");
        HalfByFive x = one(1, 40, 0, 3, 99, 2);
        x.buyer(1, 9, 0, 1);
        x.price(9, 1);
        x.sold(3, 2);
        x.day();
        long was = x.digest();
        for (int what = 0; what < 2; what++) {
            x.takes(what);
            x.best(60, 30, 10, what);
            x.stalls(60, 30, what);
            x.come(what);
            x.may(what);
            x.brings(what);
            x.shout(what);
        }
        for (int what = 0; what < 4; what++) {
            x.of(3, what);
            x.to(1, what);
            x.about(1, what + 1);
        }
        x.drawn(7, 30, 50);
        due.is("digest()", x.digest(), was);
        for (int i = 0; i < 3; i++) due.is("status(" + i + ")", x.status(i), 0);
        due.is("undo()", x.undo(), 0);
        due.is("about(0, 0)", x.about(0, 0), 0);
    }

    private static void toOneWhoStaysAway() {
        due.in("16: the HOUR and what one pays are told of one who gets nothing, too");
        HalfByFive x = one(2, 99, 1, 3, 50, 2);
        x.price(5, 98);
        x.rain(1023);
        int[] want = {5, 40, 0, 0};
        for (int i = 0; i < 4; i++) due.is("to(0, " + i + ")", x.to(0, i), want[i]);
        due.is("about(0, 4)", x.about(0, 4), 2);
    }

    // ---- what is best (promises 17 to 22)

    private static void bestPairs() {
        due.in("BEST PRICES: 'HOURS (0 .. 10, 10: never; the first no later than the second)'");
        for (int h = 0; h < 10; h++) {
            HalfByFive x = one(0, 40, 0, h, 60, 1);
            due.is("a in hour " + h, x.best(60, 0, 0, 0), 60);
            due.is("a in hour " + h + ", first pair", x.best(60, 0, 0, 1), 12 * (h + 1));
            due.is("b in hour " + h + ", first pair", x.best(61, 60, 0, 1), h + 1);
            due.is("c in hour " + h + ", first pair", x.best(62, 61, 60, 1), 0);
        }
        HalfByFive x = one(0, 40, 0, 0, 60, 1);
        x.buyer(0, 1, 50, 1);
        x.buyer(0, 2, 40, 1);
        due.is("a, b, c in 0, 1, 2", x.best(60, 50, 40, 0), 150);
        due.is("a, b, c in 0, 1, 2", x.best(60, 50, 40, 1), 11 + 2);
        due.is("the stall's own price stays", x.of(5, 0), 40);
    }

    private static void bestOfLikeOnesTheFirst() {
        due.in("BEST PRICES: 'of like ones the first pair of HOURS'");
        HalfByFive x = one(0, 40, 0, 5, 60, 1);
        due.is("all alike", x.best(60, 60, 60, 1), 0);
        due.is("no takings by any", x.best(99, 98, 97, 1), 0);
        due.is("no takings by any", x.best(99, 98, 97, 0), 0);
        due.is("nothing at 0", x.best(0, 0, 0, 0), 0);
        due.is("nothing at 0", x.best(0, 0, 0, 1), 0);
        due.is("a and b alike", x.best(60, 60, 0, 1), 6);
        due.is("b and c alike", x.best(61, 60, 60, 1), 0);
        due.is("no buyers", new HalfByFive().best(99, 50, 0, 1), 0);
    }

    private static void bringAtACost() {
        due.in("BRING: 'how many PUNNETS (0 .. 60) by which TAKINGS less COST of all are most'");
        HalfByFive x = stall(0, 0, 1);
        for (int b = 0; b < 8; b++) x.buyer(4, 0, 99, 3);
        due.is("brings(0)", x.brings(0), 48);
        due.is("brings(1)", x.brings(1), 0);
        x.price(0, 49);
        due.is("brings(48)", x.brings(48), 48);
        due.is("brings(49)", x.brings(49), 0);
        due.is("brings(99)", x.brings(99), 0);
        due.is("count(0)", x.count(0), 0);
        x = stall(99, 0, 10);
        x.price(9, 99);
        x.buyer(0, 0, 10, 3);
        x.buyer(0, 9, 99, 1);
        due.is("three at a loss for one at 99", x.brings(32), 4);
        due.is("three at a loss for one at 99", x.brings(33), 0);
        x.theirs(9, 98);
        due.is("with a neighbour in 9", x.brings(0), 3);
    }

    private static void bringOfLikeOnesTheFewest() {
        due.in("BRING: 'of like ones the fewest'");
        HalfByFive x = one(0, 40, 0, 0, 40, 3);
        due.is("brings(39)", x.brings(39), 3);
        due.is("brings(40)", x.brings(40), 0);
        due.is("brings(41)", x.brings(41), 0);
        x.price(0, 0);
        due.is("brings(0) at 0", x.brings(0), 0);
        due.is("brings(0) with no buyers", new HalfByFive().brings(0), 0);
        x.price(0, 40);
        x.price(1, 20);
        x.buyer(0, 1, 20, 1);
        due.is("brings(20)", x.brings(20), 3);
        due.is("brings(19)", x.brings(19), 4);
    }

    private static void comeGetsMost() {
        due.in("COME: 'gets most PUNNETS'");
        HalfByFive x = stall(4, 0, 40);
        x.price(5, 10);
        x.buyer(0, 6, 50, 3);
        x.buyer(0, 9, 50, 3);
        due.is("3 at 10, an hour ahead of the other", x.come(1), 5);
        x = stall(4, 0, 40);
        x.price(5, 10);
        x.buyer(0, 5, 50, 3);
        x.buyer(0, 9, 50, 3);
        due.is("3 at 40 rather than 1 at 10", x.come(1), 0);
        due.is("one who is ahead by number", x.come(0), 5);
        x = stall(0, 0, 40);
        x.buyer(0, 3, 50, 3);
        due.is("nothing in any hour", x.come(0), 0);
        x.price(9, 39);
        due.is("nothing in any hour", x.come(0), 9);
    }

    private static void comeAtTheLowestPrice() {
        due.in("COME: 'of like ones at the lowest PRICE'");
        for (int h = 0; h < 10; h++) {
            HalfByFive x = one(0, 40, 0, 9 - h, 50, 1);
            x.price(h, 39);
            if (h < 9) x.price(h + 1, 40);
            due.is("lower in " + h + " alone", x.come(0), h);
            x.theirs(h, 38);
            due.is("a neighbour in that hour", x.come(0), h == 0 ? 1 : 0);
        }
        HalfByFive x = one(5, 40, 0, 0, 40, 1);
        x.price(4, 20);
        x.price(5, 10);
        due.is("hot: 20 in 4, 15 in 5, 10 in 6", x.come(0), 5);
        x.price(7, 1);
        due.is("hot: 5 in 7", x.come(0), 7);
        x.price(7, 6);
        due.is("hot: 5 in 7 at 6", x.come(0), 5);
    }

    private static void comeThenTheFirst() {
        due.in("COME: 'then the first'");
        HalfByFive x = one(0, 40, 0, 7, 50, 1);
        due.is("all alike", x.come(0), 0);
        x.rain(1);
        due.is("but hour 0", x.come(0), 1);
        x.rain(511);
        due.is("but hours 0 to 8", x.come(0), 9);
        x.rain(1023);
        due.is("wet all day", x.come(0), 0);
        x.rain(0);
        x.price(3, 30);
        due.is("lower from 3 on", x.come(0), 3);
    }

    private static void comeWerePlain() {
        due.in("COME: 'were one PLAIN with what one pays at most as PLAIN'");
        for (int kind = 0; kind < 6; kind++) {
            HalfByFive x = one(0, 40, kind, 9, 30, 1);
            x.price(5, 30);
            x.price(6, 31);
            x.price(7, 0);
            x.price(8, 40);
            x.rain(1 << 7);
            due.is("kind " + kind + " worth 30", x.come(0), 5);
            due.is("about(0, 0)", x.about(0, 0), kind);
            due.is("about(0, 1)", x.about(0, 1), 9);
        }
    }

    private static void stallsRest() {
        due.in("TWO STALLS: 'pairs of HOURS that rest (neither takes more by another one)'");
        due.is("no buyers: all rest", new HalfByFive().stalls(99, 0, 0), 121);
        due.is("no buyers: the first", new HalfByFive().stalls(99, 0, 1), 0);
        HalfByFive x = one(0, 40, 0, 9, 50, 1);
        due.is("both alike", x.stalls(50, 50, 0), 121);
        // At 50 and 49 in hour 9: both high: this one takes 50, the neighbour would go to 49 and take it.
        // This one low takes 49, whatever the neighbour does; so this one is low in 9 (hours 0 .. 9).
        // Then the neighbour, like in price or above, takes nothing: all rest but where this one
        // would take 50, which is where the neighbour never goes down (10).
        due.is("one in hour 9 at 50, 49", x.stalls(50, 49, 0), 10 * 10);
        due.is("one in hour 9 at 50, 49", x.stalls(50, 49, 1), 0);
        due.is("one in hour 9 who does not pay", x.stalls(99, 51, 0), 121);
        // Only low is paid: this one must be low in 9; the neighbour gets nothing then.
        due.is("one in hour 9 who pays the low one", x.stalls(51, 50, 0), 10 * 11);
        due.is("one in hour 9 who pays the low one", x.stalls(51, 50, 1), 0);
    }

    private static void stallsOfLowNone() {
        due.in("TWO STALLS: '(0 as told: none)'");
        HalfByFive x = one(0, 40, 0, 0, 50, 1);
        x.theirs(0, 1);
        // At 0 the neighbour has none: this one takes 50 in hour 0 by not going down in it (1 .. 10).
        due.is("low 0", x.stalls(50, 0, 0), 10 * 11);
        due.is("low 0", x.stalls(50, 0, 1), 11);
        due.is("both 0", x.stalls(0, 0, 0), 121);
        // At 1 the neighbour has one: this one is low, too.
        due.is("low 1", x.stalls(50, 1, 0), 1);
        due.is("low 1", x.stalls(50, 1, 1), 0);
        due.is("theirs stay", x.of(0, 1), 1);
        due.is("the prices stay", x.of(0, 0), 40);
    }

    private static void stallsNeverRunOut() {
        due.in("TWO STALLS: the NEIGHBOUR's TAKINGS are of 'as many as one takes'");
        HalfByFive x = stall(0, 0, 40);
        x.buyer(5, 0, 50, 1);
        // This one has nothing to sell; the neighbour takes 2 at 20 in hour 0 while this one is at 40.
        due.is("stalls(40, 20, 0)", x.stalls(40, 20, 0), 10 + 11);
        due.is("stalls(40, 20, 1)", x.stalls(40, 20, 1), 0);
        x.rain(1);
        due.is("in rain all rest", x.stalls(40, 20, 0), 121);
    }

    private static void meanOfNoneAndAll() {
        due.in("MEAN: 'if each BUYER comes by o of 10 (0 .. 10), apart'");
        HalfByFive x = new HalfByFive();
        for (int o = 0; o <= 10; o++) fraction(x, o, 0, 1);
        x.buyer(0, 0, 40, 1);
        x.buyer(0, 1, 40, 2);
        fraction(x, 0, 0, 1);
        fraction(x, 10, 120, 1);
        for (int o = 0; o <= 10; o++) fraction(x, o, 12 * o, 1);
        x.bring(1);
        // One is sold unless neither comes.
        fraction(x, 1, 38, 5);
        fraction(x, 9, 198, 5);
        x.market(99, 0);
        for (int b = 0; b < 8; b++) x.buyer(2, b, 99, 3);
        x.price(0, 99);
        fraction(x, 10, 2376, 1);
        fraction(x, 0, 0, 1);
        fraction(x, 5, 1188, 1);
    }

    private static void meanInLowestTerms() {
        due.in("THE FRACTION: 'lowest terms, below above 0'");
        HalfByFive x = stall(1, 0, 1);
        for (int b = 0; b < 8; b++) x.buyer(0, b, 1, 1);
        fraction(x, 9, 99999999, 100000000);
        fraction(x, 1, 100000000 - 43046721, 100000000);
        fraction(x, 5, 255, 256);
        fraction(x, 2, 390625 - 65536, 390625);
        fraction(x, 10, 1, 1);
        x.price(0, 0);
        fraction(x, 9, 0, 1);
    }

    private static void shoutFiveMore() {
        due.in("SHOUT: 'were all who buy in that HOUR to pay 5 more at most'");
        HalfByFive x = stall(99, 0, 40);
        x.buyer(0, 3, 35, 1);
        x.buyer(0, 3, 34, 1);
        x.buyer(0, 3, 40, 1);
        due.is("35, 34 and 40 at 40", x.shout(3), 40);
        due.is("an hour ahead", x.shout(2), 0);
        due.is("an hour behind", x.shout(4), 0);
        x.theirs(3, 39);
        due.is("34 and 35 go next door at 39", x.shout(3), 0);
        x.theirs(3, 0);
        x.rain(1 << 3);
        due.is("in rain", x.shout(3), 0);
        x.rain(0);
        x.bring(1);
        due.is("the first takes the third's", x.shout(3), 0);
        x = one(0, 99, 0, 9, 94, 3);
        due.is("in hour 9 at 99", x.shout(9), 297);
        x = one(0, 99, 0, 0, 93, 3);
        due.is("in hour 0 at 99", x.shout(0), 0);
        due.is("no buyers", new HalfByFive().shout(0), 0);
    }

    private static void shoutBelowNothing() {
        due.in("SHOUT: '(it may be below 0)'");
        HalfByFive x = stall(3, 0, 0);
        x.price(1, 5);
        x.price(2, 99);
        x.buyer(0, 1, 0, 3);
        x.buyer(0, 2, 99, 3);
        due.is("three at 5 rather than at 99", x.shout(1), 15 - 297);
        due.is("status(0)", x.status(0), 0);
        x.price(1, 6);
        x.price(2, 99);
        due.is("6 is beyond 5 more", x.shout(1), 0);
    }

    // ---- what was sold, drawn (promises 23 to 26)

    private static void soldAsTheyCome() {
        due.in("SOLD: 'SOLD 0 .. 5, as they come: an HOUR, 0 .. 99'");
        HalfByFive x = new HalfByFive();
        for (int i = 1; i <= 6; i++) due.is("sold", x.sold(9, 99), i);
        due.is("a 7th", x.sold(9, 99), HalfByFive.FULL);
        due.is("count(5)", x.count(5), 6);
        due.is("forget()", x.forget(), 6);
        due.is("forget()", x.forget(), 0);
        due.is("sold(0, 0)", x.sold(0, 0), 1);
        due.is("count(5)", x.count(5), 1);
    }

    private static void mayOfNoSold() {
        due.in("MAY: with no SOLD all KINDS may be");
        HalfByFive x = one(9, 40, 3, 0, 0, 1);
        due.is("may(0)", x.may(0), 63);
        x.sold(0, 1);
        due.is("may(0)", x.may(0), 0);
        x.forget();
        due.is("may(0)", x.may(0), 63);
    }

    private static void mayAllSoldAreSo() {
        due.in("MAY: 'KINDS (bits) by which, were a BUYER of it, all SOLD are so'");
        HalfByFive x = one(0, 40, 1, 4, 38, 1);
        // PLAIN and WAITS pay 38, a COOK 76 in 4, SCHOOL 43 in 6, a BAG 19, a PAIR 43 for two in 4.
        x.sold(4, 0);
        due.is("none in 4", x.may(0), 1 + 2 + 8 + 16);
        x.sold(6, 0);
        due.is("none in 4 and 6", x.may(0), 1 + 2 + 16);
        x.forget();
        x.sold(4, 1);
        due.is("one in 4", x.may(0), 4);
        x.sold(4, 1);
        due.is("one in 4, told twice", x.may(0), 4);
        x.sold(4, 2);
        due.is("one in 4 and two in 4", x.may(0), 0);
        x.forget();
        x.sold(4, 2);
        due.is("two in 4", x.may(0), 32);
        x.forget();
        x.sold(6, 1);
        due.is("one in 6", x.may(0), 8);
        x.price(9, 19);
        x.forget();
        x.sold(9, 2);
        due.is("two in 9 at 19", x.may(0), 16);
        x.price(9, 20);
        due.is("two in 9 at 20", x.may(0), 0);
        x.forget();
        x.price(6, 38);
        x.price(7, 40);
        x.sold(6, 1);
        due.is("one in 6 at 38", x.may(0), 2 + 8);
        due.is("the kind stays", x.about(0, 0), 1);
    }

    private static void drawnNoneAndAll() {
        due.in("DRAWN: 'n (0 .. 30) DAYS, w (0 .. 100)'");
        HalfByFive x = one(0, 40, 0, 0, 40, 1);
        x.buyer(0, 9, 40, 2);
        for (int seed = 0; seed <= 999999; seed += 111111) {
            due.is("n 0", x.drawn(seed, 0, 100), 0);
            due.is("w 0", x.drawn(seed, 30, 0), 0);
            due.is("w 100", x.drawn(seed, 30, 100), 30 * 120);
            due.is("w 100, n 1", x.drawn(seed, 1, 100), 120);
        }
        due.is("no buyers", new HalfByFive().drawn(7, 30, 100), 0);
        x.price(9, 1);
        due.is("nothing LEARNT between days", x.drawn(7, 30, 100), 30 * 42);
        due.is("about(0, 0)", x.about(0, 0), 0);
    }

    private static void drawnLessThan() {
        due.in("DRAWN: 'by 100 left over, less than w: one comes'");
        HalfByFive x = one(0, 40, 0, 0, 40, 1);
        // From the seed 0, X is 12345, 1406932606, 654583775, 1449466924: 0, 68, 88, 17.
        int[] draws = {0, 68, 88, 17};
        for (int n = 1; n <= 4; n++) {
            int draw = draws[n - 1];
            due.is("w " + draw + ", day " + n, x.drawn(0, n, draw) - x.drawn(0, n - 1, draw), 0);
            due.is("w " + (draw + 1) + ", day " + n, x.drawn(0, n, draw + 1) - x.drawn(0, n - 1, draw + 1), 40);
        }
    }

    private static void drawnLeftOver() {
        due.in("DRAWN: 'by 2147483648 what is left over', for each BUYER, through all DAYS");
        HalfByFive x = new HalfByFive();
        // What one pays does not matter to X: the second and third never buy, yet each moves it on.
        x.buyer(0, 0, 40, 1);
        x.buyer(0, 0, 0, 1);
        x.buyer(0, 5, 99, 1);
        x.rain(1 << 5);
        int[] seeds = {0, 1, 2, 12345, 999998, 999999};
        for (int seed : seeds) {
            for (int w = 1; w < 100; w += 7) {
                long state = seed;
                int sum = 0;
                for (int i = 0; i < 90; i++) {
                    state = state * 1103515245L + 12345L & 0x7fffffffL;
                    if (i % 3 == 0 && (state >> 16) % 100 < w) sum += 40;
                }
                due.is("drawn(" + seed + ", 30, " + w + ")", x.drawn(seed, 30, w), sum);
            }
        }
    }

    // ---- days, undone; images; what there is (promises 11, 12, 27 to 32)

    private static void daysAddToTotals() {
        due.in("DAYS 'add TAKINGS and THROWN to TOTALS'");
        HalfByFive x = new HalfByFive();
        for (int i = 1; i <= 20; i++) {
            due.is("day() with no buyers", x.day(), 0);
            counts(x, 20, 0, 0, 0, 20 * i, 0, Math.min(8, i));
        }
        x.buyer(0, 0, 40, 3);
        counts(x, 20, 0, 1, 0, 400, 0, 0);
        due.is("day()", x.day(), 120);
        counts(x, 20, 0, 1, 120, 417, 0, 1);
        x.bring(0);
        due.is("day()", x.day(), 0);
        counts(x, 0, 0, 1, 120, 417, 0, 2);
    }

    private static void undoEightAtMost() {
        due.in("UNDO: '(8 at most ..'");
        HalfByFive x = one(0, 1, 0, 0, 99, 1);
        for (int i = 0; i < 12; i++) {
            x.price(0, 1 + i);
            x.bring(i % 5);
            x.day();
        }
        // The days took 0 2 3 4 5 0 7 8 9 10 0 12; thrown 0 0 1 2 3 0 0 1 2 3 0 0.
        counts(x, 1, 0, 1, 60, 12, 0, 8);
        int[] takings = {48, 48, 38, 29, 21, 14, 14, 9};
        int[] thrown = {12, 12, 9, 7, 6, 6, 6, 3};
        for (int i = 0; i < 8; i++) {
            due.is("undo()", x.undo(), takings[i]);
            due.is("count(3)", x.count(3), takings[i]);
            due.is("count(4)", x.count(4), thrown[i]);
            due.is("count(6)", x.count(6), 7 - i);
        }
        due.is("a 9th undo()", x.undo(), NO);
        counts(x, 1, 0, 1, 9, 3, 0, 0);
        due.is("status(1)", x.status(1), 1);
        x.day();
        due.is("undo() of a new day", x.undo(), 9);
    }

    private static void undoBehindABuyer() {
        due.in("UNDO: 'behind a BUYER that comes none may be'");
        HalfByFive x = one(0, 40, 0, 0, 40, 1);
        x.day();
        due.is("a refused buyer", x.buyer(0, 0, 0, 4), HalfByFive.BAD);
        due.is("count(6)", x.count(6), 1);
        x.buyer(0, 0, 0, 1);
        due.is("count(6)", x.count(6), 0);
        due.is("undo()", x.undo(), NO);
        due.is("TOTALS stay", x.count(3), 40);
        x.day();
        x.market(20, 0);
        due.is("undo() behind market", x.undo(), NO);
        x.day();
        Due.write(x, "market 9 0;");
        x.read();
        due.is("count(6) behind read", x.count(6), 0);
        due.is("undo() behind read", x.undo(), NO);
        for (int b = 0; b < 8; b++) x.buyer(0, 0, 0, 1);
        x.day();
        due.is("a 9th buyer", x.buyer(0, 0, 0, 1), HalfByFive.FULL);
        due.is("undo() behind a refused 9th", x.undo(), 0);
    }

    private static void undoKindsAndTotalsAlone() {
        due.in("UNDO: 'KINDS of BUYERS, TOTALS as ahead of the last DAY'");
        HalfByFive x = stall(99, 0, 40);
        x.price(9, 1);
        for (int b = 0; b < 8; b++) x.buyer(b < 6 ? b : 1, 0, b == 7 ? 0 : 99, 1);
        x.day();
        int[] learnt = {1, 1, 1, 3, 4, 1, 1, 0};
        for (int b = 0; b < 8; b++) due.is("about(" + b + ", 0)", x.about(b, 0), learnt[b]);
        x.bring(7);
        x.price(0, 7);
        x.theirs(0, 7);
        x.rain(7);
        x.sold(7, 7);
        x.mean(10);
        x.type('m');
        long fraction = x.part(0);
        due.is("undo()", x.undo(), 0);
        for (int b = 0; b < 8; b++) due.is("about(" + b + ", 0)", x.about(b, 0), b < 6 ? b : 1);
        counts(x, 7, 0, 8, 0, 0, 1, 0, 1);
        due.is("of(0, 0)", x.of(0, 0), 7);
        due.is("of(0, 1)", x.of(0, 1), 7);
        due.is("of(0, 2)", x.of(0, 2), 1);
        due.is("part(0)", x.part(0), fraction);
    }

    private static void imagesKeepAllBut() {
        due.in("IMAGES 0, 1 'keep all but them, THE TEXT, THE FRACTION and STATUS'");
        HalfByFive x = one(3, 40, 2, 2, 50, 3);
        x.price(9, 9);
        x.theirs(1, 11);
        x.rain(1 << 7);
        x.sold(2, 3);
        x.day();
        long was = x.digest();
        due.is("image(0)", x.image(0), 1);
        x.market(1, 1);
        due.is("image(1)", x.image(1), 1);
        x.buyer(5, 5, 5, 1);
        x.undo();
        due.is("from(0)", x.from(0), 1);
        due.is("digest", x.digest(), was);
        due.is("status(1)", x.status(1), 1);
        x.rain(0);
        x.mean(10);
        x.type('m');
        long above = x.part(0);
        x.from(0);
        due.is("THE FRACTION stays", x.part(0), above);
        due.is("THE TEXT stays", x.count(7), 1);
        due.is("of(7, 2)", x.of(7, 2), 1);
        due.is("from(1)", x.from(1), 1);
        counts(x, 1, 1, 0, 0, 0, 0, 0, 1);
        due.is("from(0) behind from(1)", x.from(0), 1);
        due.is("count(1)", x.count(1), 3);
    }

    private static void imagesKeepWhatMayBeUndone() {
        due.in("IMAGES: 'what may be undone they keep; it goes on from one'");
        HalfByFive x = one(0, 40, 0, 0, 40, 1);
        x.image(1);
        x.price(9, 1);
        for (int i = 0; i < 9; i++) x.day();
        x.image(0);
        x.buyer(0, 0, 0, 1);
        due.is("undo() behind a buyer", x.undo(), NO);
        x.from(0);
        due.is("count(6)", x.count(6), 8);
        for (int i = 8; i >= 1; i--) {
            due.is("undo()", x.undo(), 40 * i);
            due.is("about(0, 0)", x.about(0, 0), 1);
        }
        due.is("a 9th undo()", x.undo(), NO);
        x.from(0);
        x.day();
        due.is("undo() of a day that went on", x.undo(), 360);
        due.is("count(6)", x.count(6), 7);
        x.from(1);
        due.is("undo() of an image with no days", x.undo(), NO);
        due.is("about(0, 0)", x.about(0, 0), 0);
    }

    private static void imagesOfDaysThatOthersFollow() {
        due.in("IMAGES: 'what may be undone they keep', with other days in between");
        HalfByFive x = one(0, 40, 0, 0, 40, 1);
        for (int i = 0; i < 8; i++) x.day();
        x.image(0);
        x.market(99, 0);
        x.buyer(5, 0, 99, 3);
        for (int i = 0; i < 9; i++) x.day();
        x.image(1);
        x.from(0);
        for (int i = 7; i >= 0; i--) {
            due.is("undo()", x.undo(), 40 * i);
            due.is("count(4)", x.count(4), 98 * i);
            due.is("about(0, 0)", x.about(0, 0), 0);
        }
        x.from(1);
        for (int i = 8; i >= 1; i--) {
            due.is("undo()", x.undo(), 120 * i);
            due.is("count(4)", x.count(4), 96 * i);
            due.is("about(0, 0)", x.about(0, 0), 5);
        }
        due.is("undo()", x.undo(), NO);
    }

    private static void imagesAreKeptAgain() {
        due.in("28: 'An IMAGE is kept'; 29: 'NO: none was kept'");
        HalfByFive x = new HalfByFive();
        due.is("from(0)", x.from(0), NO);
        due.is("image(0)", x.image(0), 1);
        due.is("from(1)", x.from(1), NO);
        x.bring(5);
        due.is("image(0) again", x.image(0), 1);
        x.bring(6);
        due.is("from(0)", x.from(0), 1);
        due.is("count(0)", x.count(0), 5);
        x.market(1, 1);
        due.is("from(0) behind market", x.from(0), 1);
        Due.write(x, "market 9 0;");
        x.read();
        due.is("from(0) behind read", x.from(0), 1);
        due.is("count(0)", x.count(0), 5);
        due.is("from(1)", x.from(1), NO);
        due.is("status(1)", x.status(1), 3);
    }

    private static void statusCounts() {
        due.in("STATUS: 'each answer told so below is such a one'; 'where others are told they count as these'");
        HalfByFive x = new HalfByFive();
        due.is("status(3)", x.status(3), -1);
        due.is("stalls", x.stalls(1, 2, 0), -10);
        due.is("shout", x.shout(10), -10000);
        due.is("part", x.part(2), -2);
        due.is("status(0)", x.status(0), 4);
        due.is("undo", x.undo(), NO);
        due.is("from", x.from(0), NO);
        due.is("status(1)", x.status(1), 2);
        for (int i = 0; i < 7; i++) x.sold(0, 0);
        due.is("status(2)", x.status(2), 1);
        for (int i = 0; i < 100; i++) x.bring(-1);
        due.is("status(0)", x.status(0), 104);
        x.market(20, 0);
        due.is("status(0) behind market", x.status(0), 104);
        due.is("status(1) behind market", x.status(1), 2);
        due.is("status(2) behind market", x.status(2), 1);
    }

    private static void fractionAtFirst() {
        due.in("THE FRACTION: '0 by 1 at first'");
        HalfByFive x = new HalfByFive();
        due.is("part(0)", x.part(0), 0);
        due.is("part(1)", x.part(1), 1);
        x.buyer(0, 0, 40, 1);
        x.day();
        due.is("part(0)", x.part(0), 0);
        due.is("mean(11)", x.mean(11), HalfByFive.BAD);
        due.is("part(1)", x.part(1), 1);
        x.price(0, 1);
        fraction(x, 3, 3, 10);
        due.is("mean(-1)", x.mean(-1), HalfByFive.BAD);
        due.is("part(0)", x.part(0), 3);
        due.is("part(1)", x.part(1), 10);
    }

    private static void clearOfEmptyAndFull() {
        due.in("9: 'THE TEXT is empty: how many it had'");
        HalfByFive x = new HalfByFive();
        due.is("clear() of an empty one", x.clear(), 0);
        for (int i = 1; i <= 150; i++) due.is("type", x.type(i % 128), i);
        due.is("type", x.type(0), HalfByFive.FULL);
        due.is("clear() of a full one", x.clear(), 150);
        due.is("count(7)", x.count(7), 0);
        due.is("clear()", x.clear(), 0);
        due.is("read()", x.read(), -10);
    }

    private static void digestOfEmptyAndFull() {
        due.in("32: 'h = 967; then h = 31 h + v for each v'");
        HalfByFive x = new HalfByFive();
        long h = Due.fold(20, 0, 0, 0, 0, 0, 0, 0);
        for (int i = 0; i < 10; i++) h = 31 * h + 40;
        for (int i = 0; i < 11; i++) h = 31 * h;
        due.is("digest() of a new one", x.digest(), 31 * (31 * h) + 1);
        x.market(99, 9);
        for (int b = 0; b < 8; b++) x.buyer(5 - b % 6, b, 91 + b, 3 - b % 3);
        for (int i = 0; i < 6; i++) x.sold(9 - i, 94 + i);
        x.price(0, 39);
        x.mean(3);
        due.holds("a fraction with both parts", x.part(0) > 1 && x.part(1) > 1);
        x.price(0, 99);
        for (int i = 0; i < 10; i++) x.theirs(i, 90 + i);
        x.rain(1023);
        x.type(1);
        h = Due.fold(99, 9, 8, 0, 0, 6, 0, 1);
        for (int i = 0; i < 10; i++) h = 31 * h + 99;
        for (int i = 0; i < 10; i++) h = 31 * h + 90 + i;
        h = 31 * h + 1023;
        for (int b = 0; b < 8; b++) {
            h = 31 * (31 * (31 * (31 * h + 5 - b % 6) + b) + 91 + b) + 3 - b % 3;
        }
        for (int i = 0; i < 6; i++) h = 31 * (31 * h + 9 - i) + 94 + i;
        h = 31 * (31 * h + x.part(0)) + x.part(1);
        due.is("digest() of a full one", x.digest(), h);
    }
}
