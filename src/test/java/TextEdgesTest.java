/** The boundary cases of the text (promises 8 to 10): one function for each that the document names. */
public final class TextEdgesTest {
    private static final Due due = new Due();
    private static final String START = "market 1 1;";
    private static final String BUYER = "buyer 0 0 0 1;";

    public static void main(String[] args) {
        bytesAtMost();
        emptyText();
        endsTooEarly();
        marketFirstOfAll();
        marketOnce();
        wordsThatAreNone();
        lettersOfWords();
        figuresOfNumbers();
        thirdFigure();
        blanksBetween();
        everyByteBehindAnItem();
        everyByteBehindAWord();
        everyByteBehindANumber();
        tokensThatCanNotStand();
        numbersOfMarket();
        numbersOfPrice();
        numbersOfTheirs();
        numbersOfRain();
        numbersOfBuyer();
        ninthBuyer();
        firstFaultIsTold();
        howManyItems();
        priceFromThatHourOn();
        theirsInThatHour();
        rainInHours();
        takesThePlaceOfAllBut();
        faultLeavesAll();
        textGoesOn();
        due.end();
    }

    private static HalfByFive some() {
        HalfByFive x = new HalfByFive();
        x.market(30, 2);
        x.price(3, 33);
        x.theirs(4, 5);
        x.rain(9);
        x.buyer(2, 3, 40, 1);
        x.buyer(5, 6, 70, 2);
        x.sold(1, 2);
        x.day();
        return x;
    }

    /** The object behind a text was read, which must be so. */
    private static HalfByFive read(String text, int items) {
        HalfByFive x = some();
        Due.write(x, text);
        due.is("read() of '" + text + "'", x.read(), items);
        return x;
    }

    private static void fault(String text, int place) {
        HalfByFive x = some();
        Due.write(x, text);
        long was = x.digest();
        due.is("read() of '" + text + "'", x.read(), -10 - place);
        due.is("digest() behind '" + text + "'", x.digest(), was);
        for (int i = 0; i < 3; i++) due.is("status(" + i + ") behind '" + text + "'", x.status(i), 0);
    }

    private static void bytesAtMost() {
        due.in("'a TEXT (150 bytes at most)'");
        HalfByFive x = read(START + "rain 1;".repeat(19) + "rain2;", 21);
        due.is("count(7)", x.count(7), 150);
        due.is("of(2, 2)", x.of(2, 2), 1);
        due.is("a 151st byte", x.type(';'), HalfByFive.FULL);
        due.is("status(2)", x.status(2), 1);
        due.is("read() behind that", x.read(), 21);
        due.is("clear()", x.clear(), 150);
        fault(START + "rain 1;".repeat(19) + "rain 2", 150);
        fault(START + "rain 1;".repeat(19) + "price ", 150);
        fault(START + "rain 1;".repeat(19) + "rain2!", 149);
        x = new HalfByFive();
        Due.write(x, START + " ".repeat(139));
        due.is("read() with blanks to the end", x.read(), 1);
        Due.write(x, " ".repeat(150));
        due.is("read() of blanks alone", x.read(), -160);
        Due.write(x, " ".repeat(149) + "m");
        due.is("read() of a last byte", x.read(), -159);
    }

    private static void emptyText() {
        due.in("'the TEXT's length, if it ends too early (an empty one, too)'");
        due.is("read() of a new object's", new HalfByFive().read(), -10);
        fault("", 0);
        fault(" ", 1);
        fault("    ", 4);
    }

    /** Every text that is cut short: a word that is cut is none; else the end is the fault. */
    private static void endsTooEarly() {
        due.in("'the TEXT's length, if it ends too early'");
        String[] words = {"market ", "price ", "theirs ", "rain ", "buyer "};
        String[] rests = {"12 3; ", "4 56 ;", "7  8;", "9;", " 1 2 34 3;"};
        String text = "";
        for (int i = 0; i < words.length; i++) {
            for (int cut = 1; cut < words[i].length() - 1; cut++) {
                fault(text + words[i].substring(0, cut), text.length());
            }
            text += words[i];
            int end = rests[i].indexOf(';');
            fault(text.substring(0, text.length() - 1), text.length() - 1);
            for (int cut = 0; cut <= end; cut++) fault(text + rests[i].substring(0, cut), text.length() + cut);
            read(text + rests[i].substring(0, end + 1), i + 1);
            text += rests[i];
            read(text, i + 1);
        }
    }

    private static void marketFirstOfAll() {
        due.in("'market PUNNETS HEAT (.. first of all)'; a fault: 'anything ahead of it'");
        fault("price 0 0;" + START, 0);
        fault("theirs 0 0;" + START, 0);
        fault("rain 0;" + START, 0);
        fault(BUYER + START, 0);
        fault(" " + BUYER, 1);
        fault(";" + START, 0);
        fault("  ;" + START, 2);
        fault("1 " + START, 0);
        fault("1" + START, 0);
        fault("!" + START, 0);
        fault("a " + START, 0);
        fault("a" + START, 0);
        read("  " + START, 1);
    }

    private static void marketOnce() {
        due.in("'market PUNNETS HEAT (once ..)'; a fault: 'market again'");
        fault(START + START, 11);
        fault(START + "  market", 13);
        fault(START + BUYER + "market 1 1;", 25);
        fault("market market 1 1;", 7);
        fault("market 1 market;", 9);
    }

    private static void wordsThatAreNone() {
        due.in("a fault: 'a word that is none'");
        String[] none = {"m", "marke", "markets", "pric", "prices", "their", "theirss", "rai", "rains", "buye",
            "buyers", "byer", "xprice", "pricex", "sold", "day", "a", "z", "tram"};
        for (String word : none) {
            fault(word + " 1 1;", 0);
            fault(START + word + " 1 1;", 11);
            fault(START + " " + word, 12);
        }
        fault("xarket 1 1;", 0);
        fault("markex 1 1;", 0);
        fault("marxet 1 1;", 0);
        fault("pricebuyer 1 1;", 0);
        fault(START + "pricebuyer 1 1;", 11);
    }

    private static void lettersOfWords() {
        due.in("'words of letters a .. z'");
        fault("Market 1 1;", 0);
        fault("markeT 1 1;", 0);
        fault("MARKET 1 1;", 0);
        fault("`arket 1 1;", 0);
        fault("{arket 1 1;", 0);
        fault("market{1 1;", 6);
        fault("market`1 1;", 6);
        fault("marketA1 1;", 6);
        fault(START + "Rain 1;", 11);
        fault(START + "rainZ1;", 15);
        fault("mark et 1 1;", 0);
    }

    private static void figuresOfNumbers() {
        due.in("'figures (1 or 2 are one number)'");
        HalfByFive x = read("market 00 0;", 1);
        due.is("count(0) of 00", x.count(0), 0);
        x = read("market 07 09;", 1);
        due.is("count(0) of 07", x.count(0), 7);
        due.is("count(1) of 09", x.count(1), 9);
        x = read("market 70 9;", 1);
        due.is("count(0) of 70", x.count(0), 70);
        x = read("market 99 9;buyer 05 09 99 03;", 2);
        int[] want = {5, 9, 99, 3};
        for (int i = 0; i < 4; i++) due.is("about(0, " + i + ")", x.about(0, i), want[i]);
        fault("market 1/ 1;", 8);
        fault("market 1: 1;", 8);
        fault("market /1 1;", 7);
        fault("market :1 1;", 7);
        fault("market -1 1;", 7);
        fault("market +1 1;", 7);
        fault("market 1.0 1;", 8);
    }

    private static void thirdFigure() {
        due.in("a fault: 'a third figure's number'");
        fault("market 100 1;", 7);
        fault("market 001 1;", 7);
        fault("market 000 1;", 7);
        fault("market 1 001;", 9);
        fault("market 1 0000000001;", 9);
        fault("market 4294967297 1;", 7);
        fault("market 18446744073709551617 1;", 7);
        fault("market" + "0".repeat(144), 6);
        fault("market" + "9".repeat(144), 6);
        fault("market 123", 7);
        fault(START + "100;", 11);
        fault(START + "price 1 123;", 19);
        fault(START + "buyer 0 0 123 1;", 21);
        fault("123", 0);
    }

    private static void blanksBetween() {
        due.in("'blanks (32) between'");
        HalfByFive x = read("market9 2;price5 20;theirs3 35;rain2;buyer0 0 45 2;", 5);
        int[] want = {9, 2, 1};
        for (int i = 0; i < 3; i++) due.is("count(" + i + ")", x.count(i), want[i]);
        x = read("   market   9   2   ;   price   5   20   ;   rain   2   ;   ", 3);
        due.is("of(5, 0)", x.of(5, 0), 20);
        due.is("of(2, 2)", x.of(2, 2), 1);
        fault("market 92;", 9);
        fault("market9 2;pricerain 2;", 10);
        int[] noBlanks = {0, 9, 10, 11, 12, 13, 31, 33, 127};
        for (int c : noBlanks) {
            fault("market" + (char) c + "1 1;", 6);
            fault((char) c + START, 0);
            fault(START + (char) c, 11);
            fault("market 1" + (char) c + "1;", 8);
        }
    }

    private static boolean letter(int c) {
        return Character.toString((char) c).matches("[a-z]");
    }

    private static boolean figure(int c) {
        return Character.toString((char) c).matches("[0-9]");
    }

    private static void everyByteBehindAnItem() {
        due.in("a fault: 'a byte that begins none, too', behind an item");
        for (int c = 0; c < 128; c++) {
            if (c == ' ') read(START + (char) c, 1);
            else fault(START + (char) c, 11);
        }
    }

    private static void everyByteBehindAWord() {
        due.in("a fault: 'a byte that begins none, too', behind a word");
        for (int c = 0; c < 128; c++) {
            String text = "market" + (char) c + "1 1;";
            if (c == ' ') read(text, 1);
            else if (figure(c)) due.is("count(0)", read(text, 1).count(0), 10 * (c - '0') + 1);
            else fault(text, letter(c) ? 0 : 6);
        }
    }

    private static void everyByteBehindANumber() {
        due.in("a fault: 'a byte that begins none, too', behind a number");
        for (int c = 0; c < 128; c++) {
            String text = "market 1" + (char) c + " 1;";
            if (c == ' ') read(text, 1);
            else if (figure(c)) due.is("count(0)", read(text, 1).count(0), 10 + c - '0');
            else fault(text, 8);
        }
    }

    /** Each token of a text in turn is changed for one of each other sort, and left out. */
    private static void tokensThatCanNotStand() {
        due.in("FAULT: 'the place of the first byte of the first TOKEN that can not stand there'");
        String[] tokens = {"market", "1", "2", ";", "price", "3", "4", ";", "theirs", "5", "6", ";",
            "rain", "7", ";", "buyer", "1", "8", "9", "2", ";"};
        String[] others = {"price", "rain", "market", "xyz", "3", ";", "123", "!", "M"};
        StringBuilder ahead = new StringBuilder();
        for (int i = 0; i < tokens.length; i++) {
            for (String other : others) {
                if (!canStand(tokens[i], other)) fault(ahead + other + " " + rest(tokens, i + 1), ahead.length());
            }
            boolean ofLikeSort = i + 1 < tokens.length && canStand(tokens[i], tokens[i + 1]);
            if (i + 1 < tokens.length && !ofLikeSort) fault(ahead + rest(tokens, i + 1), ahead.length());
            ahead.append(tokens[i]).append(' ');
        }
        read(ahead.toString(), 5);
        fault(ahead + "; ", ahead.length());
    }

    private static boolean canStand(String token, String other) {
        if (token.matches("[0-9]+")) return other.matches("[0-9]{1,2}");
        if (token.equals(";")) return other.equals(";");
        if (token.equals("market")) return other.equals("market");
        return other.equals("price") || other.equals("rain");
    }

    private static String rest(String[] tokens, int from) {
        StringBuilder s = new StringBuilder();
        for (int i = from; i < tokens.length; i++) s.append(tokens[i]).append(' ');
        return s.toString();
    }

    private static void numbersOfMarket() {
        due.in("a fault: 'a number not as told', market PUNNETS (0 .. 99) HEAT (0 .. 9)");
        int[][] inside = {{0, 0}, {0, 9}, {99, 0}, {99, 9}};
        for (int[] w : inside) {
            HalfByFive x = read("market " + w[0] + " " + w[1] + ";", 1);
            due.is("count(0)", x.count(0), w[0]);
            due.is("count(1)", x.count(1), w[1]);
        }
        fault("market 100 0;", 7);
        fault("market 0 10;", 9);
        fault("market 0 99;", 9);
        fault("market 99 10", 10);
    }

    private static void numbersOfPrice() {
        due.in("a fault: 'a number not as told', price HOUR (0 .. 9) n (0 .. 99)");
        for (int hour = 0; hour < 10; hour += 9) {
            for (int n = 0; n < 100; n += 99) {
                due.is("of", read(START + "price " + hour + " " + n + ";", 2).of(hour, 0), n);
            }
        }
        fault(START + "price 10 0;", 17);
        fault(START + "price 99 0;", 17);
        fault(START + "price 0 100;", 19);
    }

    private static void numbersOfTheirs() {
        due.in("a fault: 'a number not as told', theirs HOUR (0 .. 9) n (0 .. 99, 0: none)");
        for (int hour = 0; hour < 10; hour += 9) {
            int[] inside = {0, 1, 99};
            for (int n : inside) {
                due.is("of", read(START + "theirs " + hour + " " + n + ";", 2).of(hour, 1), n);
            }
        }
        fault(START + "theirs 10 1;", 18);
        fault(START + "theirs 0 100;", 20);
    }

    private static void numbersOfRain() {
        due.in("a fault: 'a number not as told', rain HOUR (0 .. 9)");
        for (int hour = 0; hour < 10; hour++) due.is("of", read(START + "rain " + hour + ";", 2).of(hour, 2), 1);
        fault(START + "rain 10;", 16);
        fault(START + "rain 99;", 16);
    }

    private static void numbersOfBuyer() {
        due.in("a fault: 'a number not as told', buyer KIND (0 .. 5) HOUR (0 .. 9) WORTH (0 .. 99) WANTS (1 .. 3)");
        int[][] inside = {{0, 0, 0, 1}, {5, 9, 99, 3}, {5, 0, 99, 1}, {0, 9, 0, 3}};
        for (int[] w : inside) {
            HalfByFive x = read(START + "buyer " + w[0] + " " + w[1] + " " + w[2] + " " + w[3] + ";", 2);
            for (int i = 0; i < 4; i++) due.is("about(0, " + i + ")", x.about(0, i), w[i]);
            due.is("count(2)", x.count(2), 1);
        }
        fault(START + "buyer 6 0 0 1;", 17);
        fault(START + "buyer 10 0 0 1;", 17);
        fault(START + "buyer 0 10 0 1;", 19);
        fault(START + "buyer 0 0 100 1;", 21);
        fault(START + "buyer 0 0 0 0;", 23);
        fault(START + "buyer 0 0 0 00;", 23);
        fault(START + "buyer 0 0 0 4;", 23);
    }

    private static void ninthBuyer() {
        due.in("a fault: 'a 9th buyer at its word'");
        String eight = START + BUYER.repeat(8);
        HalfByFive x = read(eight, 9);
        due.is("count(2)", x.count(2), 8);
        due.is("read() again, with eight there", x.read(), 9);
        fault(eight + "buyer 0 0 0 1;", 123);
        fault(eight + " buyer", 124);
        fault(eight + "buyer 9 9 9 9;", 123);
        fault(eight + "buyer!", 123);
        read(eight + "rain 1;price 0 0;", 11);
    }

    private static void firstFaultIsTold() {
        due.in("FAULT: the first of several");
        fault(START + "rain 10;market 1 1;!", 16);
        fault(START + "price 10 100;", 17);
        fault(START + "buyer 6 10 100 4;", 17);
        fault("market 100 10;", 7);
        fault("! ? market", 0);
    }

    private static void howManyItems() {
        due.in("10: 'how many ITEMS'");
        read(START, 1);
        read(START + "rain 1;", 2);
        read("market1 1;" + "rain1;".repeat(23), 24);
        read(START + "price 0 0;theirs 0 0;rain 0;" + BUYER, 5);
    }

    private static void priceFromThatHourOn() {
        due.in("'price: from that HOUR on'");
        HalfByFive x = read(START + "price 5 20;price 9 10;price 7 15;", 4);
        int[] want = {40, 40, 40, 40, 40, 20, 20, 15, 15, 15};
        for (int h = 0; h < 10; h++) due.is("of(" + h + ", 0)", x.of(h, 0), want[h]);
        x = read(START + "price 9 10;price 0 99;", 3);
        for (int h = 0; h < 10; h++) due.is("of(" + h + ", 0)", x.of(h, 0), 99);
    }

    private static void theirsInThatHour() {
        due.in("'theirs: in that HOUR'");
        HalfByFive x = read(START + "theirs 0 99;theirs 9 1;theirs 5 7;theirs 5 0;", 5);
        for (int h = 0; h < 10; h++) due.is("of(" + h + ", 1)", x.of(h, 1), h == 0 ? 99 : h == 9 ? 1 : 0);
    }

    private static void rainInHours() {
        due.in("'rain HOUR', each told once or more often");
        HalfByFive x = read(START + "rain 0;rain 9;rain 0;rain 4;", 5);
        for (int h = 0; h < 10; h++) due.is("of(" + h + ", 2)", x.of(h, 2), h == 0 || h == 4 || h == 9 ? 1 : 0);
        due.is("rain(0)", x.rain(0), 1 + 16 + 512);
        x = read("market1 1;" + "rain0;rain1;rain2;rain3;rain4;rain5;rain6;rain7;rain8;rain9;", 11);
        due.is("rain(0) of all", x.rain(0), 1023);
    }

    private static void takesThePlaceOfAllBut() {
        due.in("'takes the place of all but IMAGES, THE TEXT, THE FRACTION, STATUS (TOTALS 0, SOLD none; nothing to undo)'");
        HalfByFive x = some();
        x.rain(0);
        x.mean(3);
        long above = x.part(0);
        long below = x.part(1);
        due.holds("a fraction that is none at first", above > 0);
        x.rain(1023);
        x.image(0);
        x.from(1);
        x.count(8);
        long was = x.digest();
        Due.write(x, "market 3 4;");
        due.is("read()", x.read(), 1);
        int[] counts = {3, 4, 0, 0, 0, 0, 0, 11};
        for (int i = 0; i < 8; i++) due.is("count(" + i + ")", x.count(i), counts[i]);
        for (int h = 0; h < 10; h++) {
            due.is("of(" + h + ", 0)", x.of(h, 0), 40);
            due.is("of(" + h + ", 1)", x.of(h, 1), 0);
            due.is("of(" + h + ", 2)", x.of(h, 2), 0);
        }
        due.is("part(0)", x.part(0), above);
        due.is("part(1)", x.part(1), below);
        int[] status = {1, 1, 0};
        for (int i = 0; i < 3; i++) due.is("status(" + i + ")", x.status(i), status[i]);
        due.is("undo()", x.undo(), HalfByFive.NO);
        due.is("from(0)", x.from(0), 1);
        x.clear();
        due.is("digest()", x.digest(), was);
    }

    private static void faultLeavesAll() {
        due.in("10: '-10 less the FAULT: all stays'");
        HalfByFive x = some();
        x.image(1);
        Due.write(x, "market 3 4;price 0 1;theirs 0 1;rain 0;buyer 0 0 0 1;buyer");
        long was = x.digest();
        due.is("read()", x.read(), -10 - 58);
        due.is("digest()", x.digest(), was);
        due.is("takes(0)", x.takes(0), some().takes(0));
        due.is("read() again", x.read(), -10 - 58);
        due.is("count(7)", x.count(7), 58);
        due.is("from(1)", x.from(1), 1);
        due.is("digest() of the image", x.digest(), was);
        due.is("undo()", x.undo(), 0);
    }

    private static void textGoesOn() {
        due.in("8: 'A byte .. comes behind THE TEXT'; 9: 'THE TEXT is empty'");
        HalfByFive x = read(START, 1);
        Due.add(x, "rain 2");
        due.is("read()", x.read(), -10 - 17);
        Due.add(x, ";");
        due.is("read()", x.read(), 2);
        due.is("of(2, 2)", x.of(2, 2), 1);
        due.is("clear()", x.clear(), 18);
        due.is("read()", x.read(), -10);
        Due.add(x, "market 9 9");
        due.is("read() does not see what was there ahead", x.read(), -20);
        Due.write(x, "market 9 99;");
        due.is("read()", x.read(), -19);
        Due.write(x, "market 9 9");
        due.is("read() does not see a figure that was there ahead", x.read(), -20);
        Due.write(x, "market 9");
        due.is("read()", x.read(), -18);
        Due.write(x, "marke");
        due.is("read()", x.read(), -10);
        due.is("of(2, 2)", x.of(2, 2), 1);
    }
}
