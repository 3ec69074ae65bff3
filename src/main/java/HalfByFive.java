import java.util.Arrays;

/** A stall that sells punnets hour by hour; ../shared/DOC.md says what each call answers. */
public final class HalfByFive {
    public static final int NONE = -1, BAD = -2, NO = -3, FULL = -4;

    private static final int HOURS = 10;
    private static final int LAST_HOUR = 9;
    private static final int BUYERS = 8;
    private static final int ALL_BUYERS = 255;
    private static final int KINDS = 6;
    private static final int PLAIN = 0;
    private static final int WAITS = 1;
    private static final int COOK = 2;
    private static final int PAIR = 5;
    private static final int MOST = 99;
    private static final int MOST_HEAT = 9;
    private static final int MOST_RAIN = 1023;
    private static final int MOST_WANTS = 3;
    private static final int MOST_BROUGHT = 60;
    private static final int SOLDS = 6;
    private static final int IMAGES = 2;
    private static final int BYTES = 150;
    private static final int BAD_STALLS = -10;
    private static final int BAD_SHOUT = -10000;

    private final Market now = new Market();
    private final Market trial = new Market();
    private final Market[] images = {new Market(), new Market()};
    private final boolean[] kept = new boolean[IMAGES];
    private final Day walked = new Day();
    private final TwoStalls pairs = new TwoStalls();
    private final Reader told = new Reader();
    private long above = 0;
    private long below = 1;
    private int refusedBad = 0;
    private int refusedNo = 0;
    private int refusedFull = 0;

    public HalfByFive() {
    }

    // ---- a market

    public int market(int punnets, int heat) {
        if (!within(punnets, 0, MOST) || !within(heat, 0, MOST_HEAT)) return refuse(BAD);
        int were = now.size;
        now.startAnew(punnets, heat);
        return were;
    }

    public int bring(int n) {
        if (!within(n, 0, MOST)) return refuse(BAD);
        int was = now.punnets;
        now.punnets = n;
        return was;
    }

    public int price(int hour, int n) {
        if (!isHour(hour) || !within(n, 0, MOST)) return refuse(BAD);
        int was = now.priceIn(hour);
        now.setPricesFrom(hour, n);
        return was;
    }

    public int theirs(int hour, int n) {
        if (!isHour(hour) || !within(n, 0, MOST)) return refuse(BAD);
        int was = now.theirPriceIn(hour);
        now.setTheirPrice(hour, n);
        return was;
    }

    public int rain(int hours) {
        if (!within(hours, 0, MOST_RAIN)) return refuse(BAD);
        int was = now.rainHours;
        now.rainHours = hours;
        return was;
    }

    public int buyer(int kind, int hour, int worth, int wants) {
        if (!within(kind, 0, KINDS - 1) || !isHour(hour)) return refuse(BAD);
        if (!within(worth, 0, MOST) || !within(wants, 1, MOST_WANTS)) return refuse(BAD);
        if (now.size >= BUYERS) return refuse(FULL);
        now.addBuyer(kind, hour, worth, wants);
        return now.size - 1;
    }

    public int type(int c) {
        if (!within(c, 0, 127)) return refuse(BAD);
        if (told.length >= BYTES) return refuse(FULL);
        told.addByte(c);
        return told.length;
    }

    public int clear() {
        int had = told.length;
        told.length = 0;
        return had;
    }

    public int read() {
        int answer = told.readInto(trial);
        if (answer > 0) now.becomes(trial);
        return answer;
    }

    // ---- days

    public int day() {
        now.keepPast();
        walked.run(now);
        now.totalTakings += walked.takings;
        now.totalThrown += walked.left;
        walked.teach(now);
        return walked.takings;
    }

    public int undo() {
        if (now.pastSize <= 0) return refuse(NO);
        now.goBack();
        return now.totalTakings;
    }

    public int of(int hour, int what) {
        if (!isHour(hour) || !within(what, 0, 3)) return refuse(BAD);
        switch (what) {
            case 0: return now.priceIn(hour);
            case 1: return now.theirPriceIn(hour);
            case 2: return now.rainsIn(hour) ? 1 : 0;
            default:
                walked.run(now);
                return walked.goneIn(hour);
        }
    }

    public int about(int buyer, int what) {
        if (!isBuyer(buyer) || !within(what, 0, 4)) return refuse(BAD);
        switch (what) {
            case 0: return now.kinds[buyer];
            case 1: return now.hours[buyer];
            case 2: return now.worths[buyer];
            case 3: return now.wants[buyer];
            default:
                walked.plan(now);
                return walked.carries[buyer];
        }
    }

    public int takes(int what) {
        if (!within(what, 0, 1)) return refuse(BAD);
        walked.run(now);
        return what == 0 ? walked.takings : walked.left;
    }

    public int to(int buyer, int what) {
        if (!isBuyer(buyer) || !within(what, 0, 3)) return refuse(BAD);
        walked.run(now);
        switch (what) {
            case 0: return walked.when[buyer];
            case 1: return walked.pays[buyer];
            case 2: return walked.got[buyer];
            default: return walked.served[buyer];
        }
    }

    // ---- what is best

    public int best(int a, int b, int c, int what) {
        if (!fall(a, b) || !fall(b, c) || !within(what, 0, 1)) return refuse(BAD);
        trial.becomes(now);
        int most = -1;
        int hours = 0;
        for (int first = 0; first <= HOURS; first++) {
            for (int second = first; second <= HOURS; second++) {
                trial.setPricesFrom(0, a);
                trial.setPricesFrom(first, b);
                trial.setPricesFrom(second, c);
                walked.run(trial);
                if (walked.takings > most) {
                    most = walked.takings;
                    hours = pairOf(first, second);
                }
            }
        }
        return what == 0 ? most : hours;
    }

    public int brings(int cost) {
        if (!within(cost, 0, MOST)) return refuse(BAD);
        trial.becomes(now);
        walked.plan(trial);
        int fewest = 0;
        int most = 0;
        for (int n = 0; n <= MOST_BROUGHT; n++) {
            trial.punnets = n;
            walked.walk(trial, ALL_BUYERS);
            int gain = walked.takings - cost * n;
            if (gain > most) {
                most = gain;
                fewest = n;
            }
        }
        return fewest;
    }

    public int come(int buyer) {
        if (!isBuyer(buyer)) return refuse(BAD);
        trial.becomes(now);
        trial.kinds[buyer] = PLAIN;
        int best = 0;
        int most = -1;
        for (int hour = 0; hour < HOURS; hour++) {
            trial.hours[buyer] = hour;
            walked.run(trial);
            int gets = walked.got[buyer];
            boolean cheaper = trial.priceIn(hour) < trial.priceIn(best);
            if (gets > most || gets == most && cheaper) {
                most = gets;
                best = hour;
            }
        }
        return best;
    }

    public int stalls(int h, int l, int what) {
        if (!fall(h, l) || !within(what, 0, 1)) {
            refuse(BAD);
            return BAD_STALLS;
        }
        trial.becomes(now);
        pairs.weigh(trial, walked, h, l);
        pairs.findRests();
        return what == 0 ? pairs.rests : pairs.firstRest;
    }

    public int mean(int o) {
        if (!within(o, 0, 10)) return refuse(BAD);
        walked.plan(now);
        long sum = 0;
        for (int comers = 0; comers <= ALL_BUYERS && comers < 1 << now.size; comers++) {
            int come = Integer.bitCount(comers);
            long weight = power(o, come) * power(10 - o, now.size - come);
            if (weight == 0) continue;
            walked.walk(now, comers);
            sum += weight * walked.takings;
        }
        setFraction(sum, power(10, now.size));
        return 1;
    }

    public int shout(int hour) {
        if (!isHour(hour)) {
            refuse(BAD);
            return BAD_SHOUT;
        }
        walked.run(now);
        int silent = walked.takings;
        walked.payMore(hour, 5);
        walked.walk(now, ALL_BUYERS);
        return walked.takings - silent;
    }

    // ---- what was sold, drawn

    public int sold(int hour, int n) {
        if (!isHour(hour) || !within(n, 0, MOST)) return refuse(BAD);
        if (now.soldSize >= SOLDS) return refuse(FULL);
        now.addSold(hour, n);
        return now.soldSize;
    }

    public int forget() {
        int were = now.soldSize;
        now.soldSize = 0;
        return were;
    }

    public int may(int buyer) {
        if (!isBuyer(buyer)) return refuse(BAD);
        trial.becomes(now);
        int bits = 0;
        for (int kind = 0; kind < KINDS; kind++) {
            trial.kinds[buyer] = kind;
            walked.run(trial);
            if (walked.agreesWithSold(trial)) bits |= 1 << kind;
        }
        return bits;
    }

    public int drawn(int seed, int n, int w) {
        if (!within(seed, 0, 999999) || !within(n, 0, 30) || !within(w, 0, 100)) return refuse(BAD);
        walked.plan(now);
        long x = seed;
        int sum = 0;
        for (int i = 0; i < n; i++) {
            int comers = 0;
            for (int b = 0; b < now.size && b < BUYERS; b++) {
                x = (x * 1103515245L + 12345L) % 2147483648L;
                if (x / 65536 % 100 < w) comers |= 1 << b;
            }
            walked.walk(now, comers);
            sum += walked.takings;
        }
        return sum;
    }

    // ---- what there is

    public long part(int what) {
        if (!within(what, 0, 1)) return refuse(BAD);
        return what == 0 ? above : below;
    }

    public int image(int i) {
        if (!within(i, 0, IMAGES - 1)) return refuse(BAD);
        images[i].becomes(now);
        kept[i] = true;
        return 1;
    }

    public int from(int i) {
        if (!within(i, 0, IMAGES - 1)) return refuse(BAD);
        if (!kept[i]) return refuse(NO);
        now.becomes(images[i]);
        return 1;
    }

    public int status(int what) {
        switch (what) {
            case 0: return refusedBad;
            case 1: return refusedNo;
            case 2: return refusedFull;
            default:
                refuse(BAD);
                return NONE;
        }
    }

    public int count(int what) {
        if (!within(what, 0, 7)) return refuse(BAD);
        return howMany(what);
    }

    public long digest() {
        long h = 967;
        for (int what = 0; what <= 7; what++) h = 31 * h + howMany(what);
        for (int hour = 0; hour < HOURS; hour++) h = 31 * h + now.priceIn(hour);
        for (int hour = 0; hour < HOURS; hour++) h = 31 * h + now.theirPriceIn(hour);
        h = 31 * h + now.rainHours;
        for (int b = 0; b < now.size && b < BUYERS; b++) {
            h = 31 * h + now.kinds[b];
            h = 31 * h + now.hours[b];
            h = 31 * h + now.worths[b];
            h = 31 * h + now.wants[b];
        }
        for (int i = 0; i < now.soldSize && i < SOLDS; i++) {
            h = 31 * h + now.soldHours[i];
            h = 31 * h + now.soldNumbers[i];
        }
        h = 31 * h + above;
        return 31 * h + below;
    }

    private int howMany(int what) {
        switch (what) {
            case 0: return now.punnets;
            case 1: return now.heat;
            case 2: return now.size;
            case 3: return now.totalTakings;
            case 4: return now.totalThrown;
            case 5: return now.soldSize;
            case 6: return now.pastSize;
            default: return told.length;
        }
    }

    private int refuse(int reason) {
        if (reason == BAD) refusedBad++;
        else if (reason == NO) refusedNo++;
        else refusedFull++;
        return reason;
    }

    private boolean isBuyer(int b) {
        return b >= 0 && b < now.size && b < BUYERS;
    }

    private void setFraction(long newAbove, long newBelow) {
        long divisor = commonDivisor(newAbove, newBelow);
        if (divisor <= 0) return;
        above = newAbove / divisor;
        below = newBelow / divisor;
    }

    private static boolean within(int n, int least, int most) {
        return n >= least && n <= most;
    }

    private static boolean isHour(int hour) {
        return hour >= 0 && hour < HOURS;
    }

    private static boolean fall(int higher, int lower) {
        return within(higher, 0, MOST) && within(lower, 0, higher);
    }

    private static int pairOf(int first, int second) {
        return 11 * first + second;
    }

    private static long power(int base, int times) {
        long product = 1;
        for (int i = 0; i < times; i++) product *= base;
        return product;
    }

    private static long commonDivisor(long a, long b) {
        // Euclid's steps on longs are fewer than 100; the count only shows that the loop ends.
        for (int i = 0; i < 100 && b != 0; i++) {
            long rest = a % b;
            a = b;
            b = rest;
        }
        return a;
    }

    /** Kind 0, and what every kind does that is not told otherwise. */
    private static class Plain {
        int buysIn(Market m, int hour) {
            return hour;
        }

        int paysAtMost(int worth, int lost) {
            return Math.max(0, worth - lost);
        }

        int carriesOff(int wants) {
            return wants;
        }

        boolean comesInRain() {
            return false;
        }
    }

    private static class Waits extends Plain {
        int buysIn(Market m, int hour) {
            int plain = super.buysIn(m, hour);
            int later = Math.min(LAST_HOUR, plain + 2);
            return m.priceIn(later) < m.priceIn(plain) ? later : plain;
        }
    }

    private static final class Cook extends Plain {
        int paysAtMost(int worth, int lost) {
            return 2 * super.paysAtMost(worth, lost);
        }

        boolean comesInRain() {
            return true;
        }
    }

    private static final class School extends Waits {
        int buysIn(Market m, int hour) {
            return Math.max(6, super.buysIn(m, hour));
        }

        int paysAtMost(int worth, int lost) {
            return super.paysAtMost(worth, lost) + 5;
        }
    }

    private static final class Bag extends Waits {
        int buysIn(Market m, int hour) {
            return LAST_HOUR;
        }

        int paysAtMost(int worth, int lost) {
            return super.paysAtMost(worth, lost) / 2;
        }

        int carriesOff(int wants) {
            return 2 * super.carriesOff(wants);
        }

        boolean comesInRain() {
            return true;
        }
    }

    private static final class Pair extends Plain {
        int paysAtMost(int worth, int lost) {
            return super.paysAtMost(worth, lost) + 5;
        }

        int carriesOff(int wants) {
            return wants == 1 ? 2 : super.carriesOff(wants);
        }
    }

    /** All that an image keeps. */
    private static final class Market {
        private static final int FIRST_PUNNETS = 20;
        private static final int FIRST_PRICE = 40;
        private static final int PAST = 8;
        private static final int PAST_ROW = BUYERS + 2;

        private int punnets = FIRST_PUNNETS;
        private int heat = 0;
        private int rainHours = 0;
        private int size = 0;
        private int totalTakings = 0;
        private int totalThrown = 0;
        private int soldSize = 0;
        private int pastSize = 0;
        private final int[] prices = new int[HOURS];
        private final int[] theirPrices = new int[HOURS];
        private final int[] kinds = new int[BUYERS];
        private final int[] hours = new int[BUYERS];
        private final int[] worths = new int[BUYERS];
        private final int[] wants = new int[BUYERS];
        private final int[] soldHours = new int[SOLDS];
        private final int[] soldNumbers = new int[SOLDS];
        // One row for each day that may be undone: the kinds, then the two totals ahead of it.
        private final int[] past = new int[PAST * PAST_ROW];

        Market() {
            Arrays.fill(prices, FIRST_PRICE);
        }

        private void startAnew(int newPunnets, int newHeat) {
            punnets = newPunnets;
            heat = newHeat;
            rainHours = 0;
            size = 0;
            totalTakings = 0;
            totalThrown = 0;
            soldSize = 0;
            pastSize = 0;
            Arrays.fill(prices, FIRST_PRICE);
            Arrays.fill(theirPrices, 0);
        }

        private void becomes(Market m) {
            punnets = m.punnets;
            heat = m.heat;
            rainHours = m.rainHours;
            size = m.size;
            totalTakings = m.totalTakings;
            totalThrown = m.totalThrown;
            soldSize = m.soldSize;
            pastSize = m.pastSize;
            System.arraycopy(m.prices, 0, prices, 0, HOURS);
            System.arraycopy(m.theirPrices, 0, theirPrices, 0, HOURS);
            System.arraycopy(m.kinds, 0, kinds, 0, BUYERS);
            System.arraycopy(m.hours, 0, hours, 0, BUYERS);
            System.arraycopy(m.worths, 0, worths, 0, BUYERS);
            System.arraycopy(m.wants, 0, wants, 0, BUYERS);
            System.arraycopy(m.soldHours, 0, soldHours, 0, SOLDS);
            System.arraycopy(m.soldNumbers, 0, soldNumbers, 0, SOLDS);
            System.arraycopy(m.past, 0, past, 0, PAST * PAST_ROW);
        }

        private int priceIn(int hour) {
            return hour >= 0 && hour < HOURS ? prices[hour] : 0;
        }

        private int theirPriceIn(int hour) {
            return hour >= 0 && hour < HOURS ? theirPrices[hour] : 0;
        }

        private boolean rainsIn(int hour) {
            return (rainHours >> hour & 1) == 1;
        }

        private void setPricesFrom(int hour, int n) {
            for (int i = Math.max(0, hour); i < HOURS; i++) prices[i] = n;
        }

        private void setTheirPrice(int hour, int n) {
            if (hour >= 0 && hour < HOURS) theirPrices[hour] = n;
        }

        private void setTheirPricesFrom(int hour, int n) {
            for (int i = Math.max(0, hour); i < HOURS; i++) theirPrices[i] = n;
        }

        private void addBuyer(int kind, int hour, int worth, int wanted) {
            if (size < 0 || size >= BUYERS) return;
            kinds[size] = kind;
            hours[size] = hour;
            worths[size] = worth;
            wants[size] = wanted;
            size++;
            pastSize = 0;
        }

        private void addSold(int hour, int n) {
            if (soldSize < 0 || soldSize >= SOLDS) return;
            soldHours[soldSize] = hour;
            soldNumbers[soldSize] = n;
            soldSize++;
        }

        private void keepPast() {
            if (pastSize >= PAST) {
                System.arraycopy(past, PAST_ROW, past, 0, (PAST - 1) * PAST_ROW);
                pastSize = PAST - 1;
            }
            int row = Math.max(0, pastSize) * PAST_ROW;
            System.arraycopy(kinds, 0, past, row, BUYERS);
            past[row + BUYERS] = totalTakings;
            past[row + BUYERS + 1] = totalThrown;
            pastSize++;
        }

        private void goBack() {
            if (pastSize <= 0 || pastSize > PAST) return;
            pastSize--;
            int row = pastSize * PAST_ROW;
            System.arraycopy(past, row, kinds, 0, BUYERS);
            totalTakings = past[row + BUYERS];
            totalThrown = past[row + BUYERS + 1];
        }

        private boolean fallsBelowBehind(int hour, int bound) {
            for (int i = Math.max(0, hour + 1); i < HOURS; i++) {
                if (prices[i] < bound) return true;
            }
            return false;
        }
    }

    /** One day of a market: first a plan of who buys when, then a walk through it. */
    private static final class Day {
        private final Plain[] ways = {
            new Plain(), new Waits(), new Cook(), new School(), new Bag(), new Pair()
        };
        private final int[] when = new int[BUYERS];
        private final int[] pays = new int[BUYERS];
        private final int[] carries = new int[BUYERS];
        private final boolean[] staysAway = new boolean[BUYERS];
        private final int[] order = new int[BUYERS];
        private final int[] gone = new int[HOURS];
        private final int[] got = new int[BUYERS];
        private final int[] served = new int[BUYERS];
        private int left = 0;
        private int takings = 0;
        private int theirTakings = 0;

        private void run(Market m) {
            plan(m);
            walk(m, ALL_BUYERS);
        }

        private void plan(Market m) {
            for (int b = 0; b < m.size && b < BUYERS; b++) {
                Plain way = wayOf(m.kinds[b]);
                int hour = way.buysIn(m, m.hours[b]);
                when[b] = hour;
                pays[b] = way.paysAtMost(m.worths[b], m.heat * hour);
                carries[b] = way.carriesOff(m.wants[b]);
                staysAway[b] = m.rainsIn(hour) && !way.comesInRain();
                lineUp(b);
            }
        }

        private Plain wayOf(int kind) {
            return kind >= 0 && kind < KINDS ? ways[kind] : ways[PLAIN];
        }

        /** Puts buyer b behind all earlier ones who buy no later, so that like hours stay by number. */
        private void lineUp(int b) {
            int place = b;
            for (; place > 0 && hourOf(order[place - 1]) > hourOf(b); place--) {
                order[place] = order[place - 1];
            }
            order[place] = b;
        }

        private int hourOf(int b) {
            return b >= 0 && b < BUYERS ? when[b] : 0;
        }

        private void payMore(int hour, int more) {
            for (int b = 0; b < BUYERS; b++) {
                if (when[b] == hour) pays[b] += more;
            }
        }

        /** Walks through the planned day with those buyers alone whose bits are in comers. */
        private void walk(Market m, int comers) {
            left = m.punnets;
            takings = 0;
            theirTakings = 0;
            Arrays.fill(gone, 0);
            Arrays.fill(got, 0);
            Arrays.fill(served, 0);
            for (int i = 0; i < m.size && i < BUYERS; i++) {
                int b = order[i];
                if (b < 0 || b >= BUYERS) continue;
                if ((comers >> b & 1) == 1 && !staysAway[b]) meet(m, b);
            }
        }

        private void meet(Market m, int b) {
            int here = m.priceIn(when[b]);
            int there = m.theirPriceIn(when[b]);
            if (there > 0 && there < here && pays[b] >= there) {
                theirTakings += there * carries[b];
                served[b] = 1;
            } else if (here <= pays[b]) {
                sell(b, here);
            }
        }

        private void sell(int b, int price) {
            int n = Math.min(carries[b], left);
            if (n <= 0) return;
            left -= n;
            takings += n * price;
            got[b] = n;
            served[b] = 1;
            int hour = when[b];
            if (hour >= 0 && hour < HOURS) gone[hour] += n;
        }

        private int goneIn(int hour) {
            return hour >= 0 && hour < HOURS ? gone[hour] : 0;
        }

        private boolean agreesWithSold(Market m) {
            for (int i = 0; i < m.soldSize && i < SOLDS; i++) {
                if (goneIn(m.soldHours[i]) != m.soldNumbers[i]) return false;
            }
            return true;
        }

        private void teach(Market m) {
            for (int b = 0; b < m.size && b < BUYERS; b++) {
                int kind = m.kinds[b];
                if (kind == WAITS && served[b] == 0) m.kinds[b] = PLAIN;
                if (mayLearnToWait(kind) && paidTooMuch(m, b)) m.kinds[b] = WAITS;
            }
        }

        private boolean mayLearnToWait(int kind) {
            return kind == PLAIN || kind == COOK || kind == PAIR;
        }

        private boolean paidTooMuch(Market m, int b) {
            return got[b] > 0 && m.fallsBelowBehind(when[b], m.priceIn(when[b]) / 2);
        }
    }

    /** What two stalls take for each pair of hours in which they go down, and which pairs rest. */
    private static final class TwoStalls {
        private static final int CHOICES = HOURS + 1;

        private final int[] mine = new int[CHOICES * CHOICES];
        private final int[] others = new int[CHOICES * CHOICES];
        private final int[] mostMine = new int[CHOICES];
        private final int[] mostOthers = new int[CHOICES];
        private int rests = 0;
        private int firstRest = NONE;

        private void weigh(Market m, Day day, int high, int low) {
            Arrays.fill(mostMine, 0);
            Arrays.fill(mostOthers, 0);
            for (int i = 0; i < CHOICES; i++) {
                m.setPricesFrom(0, high);
                m.setPricesFrom(i, low);
                for (int j = 0; j < CHOICES; j++) {
                    m.setTheirPricesFrom(0, high);
                    m.setTheirPricesFrom(j, low);
                    day.run(m);
                    mine[pairOf(i, j)] = day.takings;
                    others[pairOf(i, j)] = day.theirTakings;
                    mostMine[j] = Math.max(mostMine[j], day.takings);
                    mostOthers[i] = Math.max(mostOthers[i], day.theirTakings);
                }
            }
        }

        private void findRests() {
            rests = 0;
            firstRest = NONE;
            for (int i = 0; i < CHOICES; i++) {
                for (int j = 0; j < CHOICES; j++) {
                    int pair = pairOf(i, j);
                    if (mine[pair] < mostMine[j] || others[pair] < mostOthers[i]) continue;
                    if (rests == 0) firstRest = pair;
                    rests++;
                }
            }
        }
    }

    /** The text, and how a market is read from it token by token. */
    private static final class Reader {
        private static final int END = 0;
        private static final int WORD = 1;
        private static final int NUMBER = 2;
        private static final int STOP = 3;
        private static final int FOREIGN = 4;

        private final int[] bytes = new int[BYTES];
        private int length = 0;
        private int token = END;
        private int start = 0;
        private int next = 0;
        private int number = 0;

        private void addByte(int c) {
            if (length < 0 || length >= BYTES) return;
            bytes[length] = c;
            length++;
        }

        /** How many items were read into m, or -10 less the fault (m is then of no use). */
        private int readInto(Market m) {
            next = 0;
            step();
            if (!readsMarket(m)) return -10 - start;
            int items = 1;
            // Each item has its own bytes, so there are no more items than bytes.
            for (int i = 0; i < BYTES && token != END; i++) {
                if (!readsItem(m)) return -10 - start;
                items++;
            }
            return items;
        }

        private boolean readsMarket(Market m) {
            if (!isWord("market")) return false;
            int punnets = readNumber(0, MOST);
            if (punnets < 0) return false;
            int heat = readNumber(0, MOST_HEAT);
            if (heat < 0 || !readsStop()) return false;
            m.startAnew(punnets, heat);
            return true;
        }

        private boolean readsItem(Market m) {
            if (isWord("price")) return readsPrice(m);
            if (isWord("theirs")) return readsTheirs(m);
            if (isWord("rain")) return readsRain(m);
            return isWord("buyer") && m.size < BUYERS && readsBuyer(m);
        }

        private boolean readsPrice(Market m) {
            int hour = readNumber(0, LAST_HOUR);
            if (hour < 0) return false;
            int n = readNumber(0, MOST);
            if (n < 0 || !readsStop()) return false;
            m.setPricesFrom(hour, n);
            return true;
        }

        private boolean readsTheirs(Market m) {
            int hour = readNumber(0, LAST_HOUR);
            if (hour < 0) return false;
            int n = readNumber(0, MOST);
            if (n < 0 || !readsStop()) return false;
            m.setTheirPrice(hour, n);
            return true;
        }

        private boolean readsRain(Market m) {
            int hour = readNumber(0, LAST_HOUR);
            if (hour < 0 || !readsStop()) return false;
            m.rainHours |= 1 << hour;
            return true;
        }

        private boolean readsBuyer(Market m) {
            int kind = readNumber(0, KINDS - 1);
            if (kind < 0) return false;
            int hour = readNumber(0, LAST_HOUR);
            if (hour < 0) return false;
            int worth = readNumber(0, MOST);
            if (worth < 0) return false;
            int wanted = readNumber(1, MOST_WANTS);
            if (wanted < 0 || !readsStop()) return false;
            m.addBuyer(kind, hour, worth, wanted);
            return true;
        }

        /** The next token's number, or NONE if that token is no number as told. */
        private int readNumber(int least, int most) {
            step();
            return token == NUMBER && within(number, least, most) ? number : NONE;
        }

        /** Whether the next token ends the item; if so, it stands at the one behind that. */
        private boolean readsStop() {
            step();
            if (token != STOP) return false;
            step();
            return true;
        }

        private void step() {
            for (; next < length && byteAt(next) == ' '; next++) {
                // blanks only part tokens
            }
            start = next;
            int c = byteAt(start);
            if (start >= length) {
                token = END;
            } else if (isLetter(c)) {
                token = WORD;
                for (; next < length && isLetter(byteAt(next)); next++) {
                    // to the word's end
                }
            } else if (isFigure(c)) {
                number = 0;
                for (; next < length && isFigure(byteAt(next)); next++) {
                    number = 10 * number + byteAt(next) - '0';
                }
                // A number with a third figure is none, as a whole.
                token = next - start <= 2 ? NUMBER : FOREIGN;
            } else {
                token = c == ';' ? STOP : FOREIGN;
                next++;
            }
        }

        private boolean isWord(String word) {
            if (token != WORD || next - start != word.length()) return false;
            for (int i = 0; i < word.length(); i++) {
                if (byteAt(start + i) != word.charAt(i)) return false;
            }
            return true;
        }

        private int byteAt(int place) {
            return place >= 0 && place < BYTES ? bytes[place] : 0;
        }

        private static boolean isLetter(int c) {
            return c >= 'a' && c <= 'z';
        }

        private static boolean isFigure(int c) {
            return c >= '0' && c <= '9';
        }
    }
}
