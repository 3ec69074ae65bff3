import java.util.ArrayList;
import java.util.List;

/**
 * Each range of each call, just inside and just outside, and each refused call: its answer, its count
 * in STATUS, and that it leaves all else as it was (held against a twin that was not asked).
 */
public final class RefusedTest {
    private static final int BAD = HalfByFive.BAD;
    private static final int NO = HalfByFive.NO;
    private static final int FULL = HalfByFive.FULL;
    private static final int[] REASONS = {BAD, NO, FULL};
    private static final String[] STATES = {"new", "some", "full"};
    private static final int[] BUYERS = {0, 5, 8};
    private static final Due due = new Due();

    private interface Call {
        long on(HalfByFive x);
    }

    private interface CallWith {
        long on(HalfByFive x, int n);
    }

    public static void main(String[] args) {
        for (int state = 0; state < STATES.length; state++) {
            rangesOfTheMarket(state);
            rangesOfBuyersAndText(state);
            rangesOfQuestions(state);
            rangesOfWhatIsBest(state);
            rangesOfSoldAndDrawn(state);
            rangesOfWhatThereIs(state);
            extremes(state);
        }
        full();
        no();
        badAheadOfOthers();
        faultsAreNotRefused();
        due.end();
    }

    // ---- the states in which each call is tried

    private static HalfByFive in(int state) {
        HalfByFive x = new HalfByFive();
        if (state == 1) makeSome(x);
        if (state == 2) makeFull(x);
        return x;
    }

    private static void makeSome(HalfByFive x) {
        x.market(11, 1);
        x.price(4, 21);
        x.price(8, 5);
        x.theirs(3, 20);
        x.rain(1 << 2);
        for (int b = 0; b < 5; b++) x.buyer(b, b, 60 - b, 1 + b % 3);
        x.sold(4, 2);
        x.sold(0, 1);
        x.image(1);
        x.day();
        x.bring(12);
        x.day();
        x.mean(3);
        Due.add(x, "market 3 4;rain 5;");
    }

    private static void makeFull(HalfByFive x) {
        x.market(99, 9);
        x.price(0, 99);
        x.price(3, 30);
        x.price(7, 9);
        for (int h = 0; h < 10; h++) x.theirs(h, 99 - h);
        x.rain(1023);
        for (int b = 0; b < 8; b++) x.buyer(b % 6, b, 99 - b, 1 + b % 3);
        for (int i = 0; i < 6; i++) x.sold(i, 99 - i);
        x.day();
        x.image(0);
        x.rain(0);
        for (int i = 0; i < 9; i++) x.day();
        x.image(1);
        x.mean(7);
        Due.add(x, "market 1 2;" + "rain 1;".repeat(19) + "rain2;");
    }

    // ---- what a call is held against

    /** All that can be seen of an object but STATUS; it is of no further use behind this. */
    private static List<Long> seen(HalfByFive x) {
        List<Long> all = new ArrayList<>();
        all.add(x.digest());
        for (int h = 0; h < 10; h++) {
            for (int what = 0; what < 4; what++) all.add((long) x.of(h, what));
        }
        for (int b = 0; b < 8; b++) {
            for (int what = 0; what < 4; what++) all.add((long) x.to(b, what));
            all.add((long) x.may(b));
        }
        undoAll(x, all);
        for (int i = 0; i < 2; i++) {
            all.add((long) x.from(i));
            all.add(x.digest());
            undoAll(x, all);
        }
        all.add((long) x.read());
        all.add(x.digest());
        return all;
    }

    private static void undoAll(HalfByFive x, List<Long> all) {
        for (int i = 0; i < 9; i++) {
            all.add((long) x.undo());
            all.add(x.digest());
        }
    }

    private static int[] statusOf(HalfByFive x) {
        return new int[] {x.status(0), x.status(1), x.status(2)};
    }

    private static void counted(String call, HalfByFive x, int[] ahead, int reason, int times) {
        for (int i = 0; i < 3; i++) {
            int more = REASONS[i] == reason ? times : 0;
            due.is("status(" + i + ") behind " + call, x.status(i), ahead[i] + more);
        }
    }

    /** That a call is refused in a state, twice over: answer, STATUS, and nothing else. */
    private static void refused(int state, String call, Call f, int answer, int reason) {
        due.in("state " + STATES[state]);
        HalfByFive x = in(state);
        int[] ahead = statusOf(x);
        due.is(call, f.on(x), answer);
        counted(call, x, ahead, reason, 1);
        due.is(call + " again", f.on(x), answer);
        counted(call + " again", x, ahead, reason, 2);
        due.holds("all stays behind " + call, seen(x).equals(seen(in(state))));
    }

    private static void taken(int state, String call, Call f, int badAnswer) {
        due.in("state " + STATES[state]);
        HalfByFive x = in(state);
        int[] ahead = statusOf(x);
        due.holds(call + " is taken", f.on(x) != badAnswer);
        due.is("status(0) behind " + call, x.status(0), ahead[0]);
    }

    private static void range(int state, String name, int least, int most, CallWith f) {
        range(state, name, least, most, f, BAD);
    }

    /** That a number is taken at both ends of its range, and refused as BAD just outside and far off. */
    private static void range(int state, String name, int least, int most, CallWith f, int badAnswer) {
        int[] outside = {least - 1, most + 1, most + 128, most + 256, most + 65536, -most - 1,
            Integer.MIN_VALUE, Integer.MAX_VALUE};
        for (int n : outside) {
            if (n < least || n > most) refused(state, name + " of " + n, x -> f.on(x, n), badAnswer, BAD);
        }
        if (least > most) return;
        taken(state, name + " of " + least, x -> f.on(x, least), badAnswer);
        taken(state, name + " of " + most, x -> f.on(x, most), badAnswer);
    }

    // ---- the ranges, call by call

    private static void rangesOfTheMarket(int s) {
        range(s, "market's punnets", 0, 99, (x, n) -> x.market(n, 0));
        range(s, "market's heat", 0, 9, (x, n) -> x.market(0, n));
        range(s, "bring's n", 0, 99, (x, n) -> x.bring(n));
        range(s, "price's hour", 0, 9, (x, n) -> x.price(n, 0));
        range(s, "price's n", 0, 99, (x, n) -> x.price(0, n));
        range(s, "theirs' hour", 0, 9, (x, n) -> x.theirs(n, 0));
        range(s, "theirs' n", 0, 99, (x, n) -> x.theirs(0, n));
        range(s, "rain's hours", 0, 1023, (x, n) -> x.rain(n));
    }

    private static void rangesOfBuyersAndText(int s) {
        range(s, "buyer's kind", 0, 5, (x, n) -> x.buyer(n, 0, 0, 1));
        range(s, "buyer's hour", 0, 9, (x, n) -> x.buyer(0, n, 0, 1));
        range(s, "buyer's worth", 0, 99, (x, n) -> x.buyer(0, 0, n, 1));
        range(s, "buyer's wants", 1, 3, (x, n) -> x.buyer(0, 0, 0, n));
        range(s, "type's c", 0, 127, (x, n) -> x.type(n));
    }

    private static void rangesOfQuestions(int s) {
        int last = BUYERS[s] - 1;
        range(s, "of's hour", 0, 9, (x, n) -> x.of(n, 0));
        range(s, "of's hour for what goes", 0, 9, (x, n) -> x.of(n, 3));
        range(s, "of's what", 0, 3, (x, n) -> x.of(0, n));
        for (int i = 0; i < 5; i++) {
            int what = i;
            range(s, "about's buyer for " + what, 0, last, (x, n) -> x.about(n, what));
        }
        if (last >= 0) range(s, "about's what", 0, 4, (x, n) -> x.about(0, n));
        range(s, "takes' what", 0, 1, (x, n) -> x.takes(n));
        for (int i = 0; i < 4; i++) {
            int what = i;
            range(s, "to's buyer for " + what, 0, last, (x, n) -> x.to(n, what));
        }
        if (last >= 0) range(s, "to's what", 0, 3, (x, n) -> x.to(0, n));
    }

    private static void rangesOfWhatIsBest(int s) {
        range(s, "best's a", 0, 99, (x, n) -> x.best(n, 0, 0, 0));
        range(s, "best's a above b", 50, 99, (x, n) -> x.best(n, 50, 0, 1));
        range(s, "best's b", 0, 50, (x, n) -> x.best(50, n, 0, 0));
        range(s, "best's b above c", 20, 50, (x, n) -> x.best(50, n, 20, 1));
        range(s, "best's c", 0, 20, (x, n) -> x.best(50, 20, n, 0));
        range(s, "best's all alike", 0, 99, (x, n) -> x.best(n, n, n, 1));
        range(s, "best's what", 0, 1, (x, n) -> x.best(2, 1, 0, n));
        range(s, "brings' cost", 0, 99, (x, n) -> x.brings(n));
        range(s, "come's buyer", 0, BUYERS[s] - 1, (x, n) -> x.come(n));
        range(s, "stalls' h", 0, 99, (x, n) -> x.stalls(n, 0, 0), -10);
        range(s, "stalls' h above l", 50, 99, (x, n) -> x.stalls(n, 50, 1), -10);
        range(s, "stalls' l", 0, 50, (x, n) -> x.stalls(50, n, 0), -10);
        range(s, "stalls' both alike", 0, 99, (x, n) -> x.stalls(n, n, 1), -10);
        range(s, "stalls' what", 0, 1, (x, n) -> x.stalls(50, 20, n), -10);
        range(s, "mean's o", 0, 10, (x, n) -> x.mean(n));
        range(s, "shout's hour", 0, 9, (x, n) -> x.shout(n), -10000);
    }

    private static void rangesOfSoldAndDrawn(int s) {
        range(s, "sold's hour", 0, 9, (x, n) -> x.sold(n, 0));
        range(s, "sold's n", 0, 99, (x, n) -> x.sold(0, n));
        range(s, "may's buyer", 0, BUYERS[s] - 1, (x, n) -> x.may(n));
        range(s, "drawn's seed", 0, 999999, (x, n) -> x.drawn(n, 0, 0));
        range(s, "drawn's n", 0, 30, (x, n) -> x.drawn(0, n, 0));
        range(s, "drawn's w", 0, 100, (x, n) -> x.drawn(0, 0, n));
    }

    private static void rangesOfWhatThereIs(int s) {
        range(s, "part's what", 0, 1, (x, n) -> x.part(n));
        range(s, "image's i", 0, 1, (x, n) -> x.image(n));
        range(s, "from's i", 0, 1, (x, n) -> x.from(n));
        range(s, "status' what", 0, 2, (x, n) -> x.status(n), -1);
        range(s, "count's what", 0, 7, (x, n) -> x.count(n));
    }

    /** Several wrong numbers in one call are refused, and counted, once. */
    private static void extremes(int s) {
        int[] far = {Integer.MIN_VALUE, Integer.MAX_VALUE, -1};
        for (int n : far) {
            refused(s, "market", x -> x.market(n, n), BAD, BAD);
            refused(s, "price", x -> x.price(n, n), BAD, BAD);
            refused(s, "theirs", x -> x.theirs(n, n), BAD, BAD);
            refused(s, "buyer", x -> x.buyer(n, n, n, n), BAD, BAD);
            refused(s, "of", x -> x.of(n, n), BAD, BAD);
            refused(s, "about", x -> x.about(n, n), BAD, BAD);
            refused(s, "to", x -> x.to(n, n), BAD, BAD);
            refused(s, "best", x -> x.best(n, n, n, n), BAD, BAD);
            refused(s, "stalls", x -> x.stalls(n, n, n), -10, BAD);
            refused(s, "sold", x -> x.sold(n, n), BAD, BAD);
            refused(s, "drawn", x -> x.drawn(n, n, n), BAD, BAD);
        }
    }

    // ---- full, no, and which comes first

    private static void full() {
        refused(2, "a 9th buyer", x -> x.buyer(0, 0, 0, 1), FULL, FULL);
        refused(2, "a 151st byte", x -> x.type(32), FULL, FULL);
        refused(2, "a 7th sold", x -> x.sold(0, 0), FULL, FULL);
        HalfByFive x = in(2);
        due.in("what was full and is no more");
        x.clear();
        due.is("type behind clear", x.type(32), 1);
        x.forget();
        due.is("sold behind forget", x.sold(0, 0), 1);
        x.market(1, 1);
        due.is("buyer behind market", x.buyer(0, 0, 0, 1), 0);
        x = in(1);
        due.in("what is not full by one");
        for (int b = 5; b < 8; b++) due.is("buyer", x.buyer(0, 0, 0, 1), b);
        due.is("buyer", x.buyer(0, 0, 0, 1), FULL);
        for (int i = 3; i <= 6; i++) due.is("sold", x.sold(0, 0), i);
        due.is("sold", x.sold(0, 0), FULL);
        for (int i = 19; i <= 150; i++) due.is("type", x.type(59), i);
        due.is("type", x.type(59), FULL);
        for (int i = 0; i < 3; i++) due.is("status(" + i + ")", x.status(i), i == 2 ? 3 : 0);
    }

    private static void no() {
        refused(0, "undo with no day", x -> x.undo(), NO, NO);
        refused(0, "from(0) with no image", x -> x.from(0), NO, NO);
        refused(0, "from(1) with no image", x -> x.from(1), NO, NO);
        refused(1, "from(0) with image 1 alone", x -> x.from(0), NO, NO);
        taken(1, "undo", x -> x.undo(), NO);
        taken(1, "from(1)", x -> x.from(1), NO);
        taken(2, "from(0)", x -> x.from(0), NO);
    }

    /** "Refused .. the first of: BAD; NO; FULL". */
    private static void badAheadOfOthers() {
        refused(2, "a wrong 9th buyer", x -> x.buyer(0, 0, 0, 4), BAD, BAD);
        refused(2, "a wrong 151st byte", x -> x.type(128), BAD, BAD);
        refused(2, "a wrong 7th sold", x -> x.sold(9, 100), BAD, BAD);
        refused(0, "from(2) with no image", x -> x.from(2), BAD, BAD);
        refused(0, "from(-1) with no image", x -> x.from(-1), BAD, BAD);
    }

    /** A fault of the text is told by its place; it is none of BAD, NO, FULL, and all stays. */
    private static void faultsAreNotRefused() {
        due.in("a text with a fault");
        for (int state = 0; state < 2; state++) {
            HalfByFive x = in(state);
            HalfByFive twin = in(state);
            Due.write(x, "market 3 3;price 1 1;theirs 2 2;rain 3;buyer 0 0 0 1;!");
            Due.write(twin, "market 3 3;price 1 1;theirs 2 2;rain 3;buyer 0 0 0 1;!");
            int[] ahead = statusOf(x);
            due.is("read()", x.read(), -10 - 53);
            counted("read()", x, ahead, 0, 0);
            due.holds("all stays behind read()", seen(x).equals(seen(twin)));
        }
    }
}
