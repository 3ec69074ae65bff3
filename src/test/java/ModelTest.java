import java.math.BigInteger;
import java.util.ArrayList;
import java.util.Arrays;
import java.util.List;
import java.util.Random;
import java.util.regex.Matcher;
import java.util.regex.Pattern;

/** Long runs of calls by a seed, each answer held against a second, plainer writing of the document. */
public final class ModelTest {
    private static final int RUNS = 2000;
    private static final int CALLS = 300;
    private static final Due due = new Due();

    public static void main(String[] args) {
        for (int run = 0; run < RUNS && due.wrong() == 0; run++) new Run(run).go();
        due.end();
    }

    /** The state of the document, and a day of it, with nothing kept that can be worked out anew. */
    private static final class State {
        int punnets = 20;
        int heat = 0;
        int rain = 0;
        int takings = 0;
        int thrown = 0;
        int[] prices = new int[10];
        int[] theirs = new int[10];
        List<int[]> buyers = new ArrayList<>();
        List<int[]> sold = new ArrayList<>();
        List<int[]> past = new ArrayList<>();

        State() {
            Arrays.fill(prices, 40);
        }

        State copy() {
            State s = new State();
            s.punnets = punnets;
            s.heat = heat;
            s.rain = rain;
            s.takings = takings;
            s.thrown = thrown;
            s.prices = prices.clone();
            s.theirs = theirs.clone();
            for (int[] b : buyers) s.buyers.add(b.clone());
            for (int[] e : sold) s.sold.add(e.clone());
            for (int[] p : past) s.past.add(p.clone());
            return s;
        }

        int waitsHour(int hour) {
            int later = hour + 2 > 9 ? 9 : hour + 2;
            if (prices[later] < prices[hour]) return later;
            return hour;
        }

        int hourOf(int[] b) {
            if (b[0] == 4) return 9;
            if (b[0] == 1) return waitsHour(b[1]);
            if (b[0] == 3) return waitsHour(b[1]) < 6 ? 6 : waitsHour(b[1]);
            return b[1];
        }

        int paysOf(int[] b) {
            int plain = b[2] - heat * hourOf(b);
            if (plain < 0) plain = 0;
            if (b[0] == 2) return plain + plain;
            if (b[0] == 3 || b[0] == 5) return plain + 5;
            if (b[0] == 4) return plain >> 1;
            return plain;
        }

        int takesOf(int[] b) {
            if (b[0] == 4) return b[3] + b[3];
            if (b[0] == 5 && b[3] == 1) return 2;
            return b[3];
        }
    }

    /** What a day of a state with some of the buyers, and a shout in one hour (or -1), comes to. */
    private static final class Outcome {
        int takings = 0;
        int theirTakings = 0;
        int left;
        int[] gone = new int[10];
        int[] got = new int[8];
        boolean[] served = new boolean[8];

        Outcome(State s, int comers, int shoutHour) {
            left = s.punnets;
            for (int hour = 0; hour < 10; hour++) {
                for (int i = 0; i < s.buyers.size(); i++) {
                    int[] b = s.buyers.get(i);
                    if ((comers & 1 << i) == 0 || s.hourOf(b) != hour) continue;
                    if ((s.rain & 1 << hour) != 0 && b[0] != 2 && b[0] != 4) continue;
                    meet(s, i, hour, s.paysOf(b) + (hour == shoutHour ? 5 : 0));
                }
            }
        }

        private void meet(State s, int i, int hour, int pays) {
            int wanted = s.takesOf(s.buyers.get(i));
            boolean nextDoor = s.theirs[hour] != 0 && s.theirs[hour] < s.prices[hour];
            if (nextDoor && s.theirs[hour] <= pays) {
                theirTakings += wanted * s.theirs[hour];
                served[i] = true;
                return;
            }
            if (pays < s.prices[hour]) return;
            for (int k = 0; k < wanted && left > 0; k++) {
                left--;
                got[i]++;
                gone[hour]++;
                takings += s.prices[hour];
                served[i] = true;
            }
        }
    }

    private static Outcome dayOf(State s) {
        return new Outcome(s, 255, -1);
    }

    /** The document's calls over a State. */
    private static final class Model {
        State s = new State();
        State[] images = new State[2];
        StringBuilder text = new StringBuilder();
        BigInteger above = BigInteger.ZERO;
        BigInteger below = BigInteger.ONE;
        int[] refused = new int[3];

        private static boolean in(int n, int least, int most) {
            return least <= n && n <= most;
        }

        private int bad(boolean right) {
            if (right) return 0;
            refused[0]++;
            return -2;
        }

        private boolean has(int b) {
            return in(b, 0, s.buyers.size() - 1);
        }

        int market(int punnets, int heat) {
            if (bad(in(punnets, 0, 99) && in(heat, 0, 9)) < 0) return -2;
            int were = s.buyers.size();
            s = new State();
            s.punnets = punnets;
            s.heat = heat;
            return were;
        }

        int bring(int n) {
            if (bad(in(n, 0, 99)) < 0) return -2;
            int was = s.punnets;
            s.punnets = n;
            return was;
        }

        int price(int hour, int n) {
            if (bad(in(hour, 0, 9) && in(n, 0, 99)) < 0) return -2;
            int was = s.prices[hour];
            Arrays.fill(s.prices, hour, 10, n);
            return was;
        }

        int theirs(int hour, int n) {
            if (bad(in(hour, 0, 9) && in(n, 0, 99)) < 0) return -2;
            int was = s.theirs[hour];
            s.theirs[hour] = n;
            return was;
        }

        int rain(int hours) {
            if (bad(in(hours, 0, 1023)) < 0) return -2;
            int was = s.rain;
            s.rain = hours;
            return was;
        }

        int buyer(int kind, int hour, int worth, int wants) {
            if (bad(in(kind, 0, 5) && in(hour, 0, 9) && in(worth, 0, 99) && in(wants, 1, 3)) < 0) return -2;
            if (s.buyers.size() == 8) {
                refused[2]++;
                return -4;
            }
            s.buyers.add(new int[] {kind, hour, worth, wants});
            s.past.clear();
            return s.buyers.size() - 1;
        }

        int type(int c) {
            if (bad(in(c, 0, 127)) < 0) return -2;
            if (text.length() == 150) {
                refused[2]++;
                return -4;
            }
            text.append((char) c);
            return text.length();
        }

        int clear() {
            int had = text.length();
            text.setLength(0);
            return had;
        }

        int read() {
            Telling telling = new Telling(text.toString());
            int fault = telling.fault();
            if (fault >= 0) return -10 - fault;
            s = telling.s;
            return telling.items;
        }

        int day() {
            Outcome o = dayOf(s);
            int[] row = new int[10];
            for (int i = 0; i < s.buyers.size(); i++) row[i] = s.buyers.get(i)[0];
            row[8] = s.takings;
            row[9] = s.thrown;
            s.past.add(row);
            if (s.past.size() > 8) s.past.remove(0);
            s.takings += o.takings;
            s.thrown += o.left;
            int[] kinds = new int[8];
            for (int i = 0; i < s.buyers.size(); i++) kinds[i] = learnt(o, i);
            for (int i = 0; i < s.buyers.size(); i++) s.buyers.get(i)[0] = kinds[i];
            return o.takings;
        }

        private int learnt(Outcome o, int i) {
            int[] b = s.buyers.get(i);
            if (b[0] == 1) return o.served[i] ? 1 : 0;
            if (b[0] == 3 || b[0] == 4 || o.got[i] == 0) return b[0];
            int hour = s.hourOf(b);
            for (int later = 9; later > hour; later--) {
                if (s.prices[later] < s.prices[hour] / 2) return 1;
            }
            return b[0];
        }

        int undo() {
            if (s.past.isEmpty()) {
                refused[1]++;
                return -3;
            }
            int[] row = s.past.remove(s.past.size() - 1);
            for (int i = 0; i < s.buyers.size(); i++) s.buyers.get(i)[0] = row[i];
            s.takings = row[8];
            s.thrown = row[9];
            return s.takings;
        }

        int of(int hour, int what) {
            if (bad(in(hour, 0, 9) && in(what, 0, 3)) < 0) return -2;
            return new int[] {s.prices[hour], s.theirs[hour], s.rain >> hour & 1, dayOf(s).gone[hour]}[what];
        }

        int about(int b, int what) {
            if (bad(has(b) && in(what, 0, 4)) < 0) return -2;
            return what == 4 ? s.takesOf(s.buyers.get(b)) : s.buyers.get(b)[what];
        }

        int takes(int what) {
            if (bad(in(what, 0, 1)) < 0) return -2;
            return what == 0 ? dayOf(s).takings : dayOf(s).left;
        }

        int to(int b, int what) {
            if (bad(has(b) && in(what, 0, 3)) < 0) return -2;
            Outcome o = dayOf(s);
            int[] who = s.buyers.get(b);
            return new int[] {s.hourOf(who), s.paysOf(who), o.got[b], o.served[b] ? 1 : 0}[what];
        }

        int best(int a, int b, int c, int what) {
            if (bad(in(a, 0, 99) && in(b, 0, a) && in(c, 0, b) && in(what, 0, 1)) < 0) return -2;
            int most = Integer.MIN_VALUE;
            int where = -1;
            for (int pair = 0; pair <= 120; pair++) {
                int first = pair / 11;
                int second = pair % 11;
                if (second < first) continue;
                State t = s.copy();
                for (int h = 0; h < 10; h++) t.prices[h] = h < first ? a : h < second ? b : c;
                int takings = dayOf(t).takings;
                if (takings > most) {
                    most = takings;
                    where = pair;
                }
            }
            return what == 0 ? most : where;
        }

        int brings(int cost) {
            if (bad(in(cost, 0, 99)) < 0) return -2;
            int[] gains = new int[61];
            State t = s.copy();
            for (int n = 0; n <= 60; n++) {
                t.punnets = n;
                gains[n] = dayOf(t).takings - cost * n;
            }
            int most = Arrays.stream(gains).max().getAsInt();
            for (int n = 0; n <= 60; n++) if (gains[n] == most) return n;
            return -1;
        }

        int come(int b) {
            if (bad(has(b)) < 0) return -2;
            long bestRank = Long.MIN_VALUE;
            int best = -1;
            for (int h = 0; h < 10; h++) {
                State t = s.copy();
                t.buyers.get(b)[0] = 0;
                t.buyers.get(b)[1] = h;
                long rank = dayOf(t).got[b] * 1000L - s.prices[h];
                if (rank > bestRank) {
                    bestRank = rank;
                    best = h;
                }
            }
            return best;
        }

        int stalls(int high, int low, int what) {
            if (bad(in(high, 0, 99) && in(low, 0, high) && in(what, 0, 1)) < 0) return -10;
            int[][] mine = new int[11][11];
            int[][] others = new int[11][11];
            State t = s.copy();
            for (int i = 0; i <= 10; i++) {
                for (int j = 0; j <= 10; j++) {
                    for (int h = 0; h < 10; h++) {
                        t.prices[h] = h < i ? high : low;
                        t.theirs[h] = h < j ? high : low;
                    }
                    Outcome o = dayOf(t);
                    mine[i][j] = o.takings;
                    others[i][j] = o.theirTakings;
                }
            }
            int rests = 0;
            int first = -1;
            for (int i = 10; i >= 0; i--) {
                for (int j = 10; j >= 0; j--) {
                    boolean rest = true;
                    for (int k = 0; k <= 10; k++) rest &= mine[k][j] <= mine[i][j] && others[i][k] <= others[i][j];
                    if (!rest) continue;
                    rests++;
                    first = 11 * i + j;
                }
            }
            return what == 0 ? rests : first;
        }

        int mean(int o) {
            if (bad(in(o, 0, 10)) < 0) return -2;
            BigInteger sum = BigInteger.ZERO;
            int n = s.buyers.size();
            for (int comers = 0; comers < 1 << n; comers++) {
                BigInteger weight = BigInteger.ONE;
                for (int i = 0; i < n; i++) {
                    weight = weight.multiply(BigInteger.valueOf((comers >> i & 1) == 1 ? o : 10 - o));
                }
                sum = sum.add(weight.multiply(BigInteger.valueOf(new Outcome(s, comers, -1).takings)));
            }
            BigInteger all = BigInteger.TEN.pow(n);
            BigInteger common = sum.gcd(all);
            above = sum.divide(common);
            below = all.divide(common);
            return 1;
        }

        int shout(int hour) {
            if (bad(in(hour, 0, 9)) < 0) return -10000;
            return new Outcome(s, 255, hour).takings - dayOf(s).takings;
        }

        int sold(int hour, int n) {
            if (bad(in(hour, 0, 9) && in(n, 0, 99)) < 0) return -2;
            if (s.sold.size() == 6) {
                refused[2]++;
                return -4;
            }
            s.sold.add(new int[] {hour, n});
            return s.sold.size();
        }

        int forget() {
            int were = s.sold.size();
            s.sold.clear();
            return were;
        }

        int may(int b) {
            if (bad(has(b)) < 0) return -2;
            int bits = 0;
            for (int kind = 0; kind < 6; kind++) {
                State t = s.copy();
                t.buyers.get(b)[0] = kind;
                Outcome o = dayOf(t);
                boolean so = true;
                for (int[] e : s.sold) so &= o.gone[e[0]] == e[1];
                if (so) bits += 1 << kind;
            }
            return bits;
        }

        int drawn(int seed, int n, int w) {
            if (bad(in(seed, 0, 999999) && in(n, 0, 30) && in(w, 0, 100)) < 0) return -2;
            BigInteger x = BigInteger.valueOf(seed);
            int sum = 0;
            for (int d = 0; d < n; d++) {
                int comers = 0;
                for (int i = 0; i < s.buyers.size(); i++) {
                    x = x.multiply(BigInteger.valueOf(1103515245)).add(BigInteger.valueOf(12345));
                    x = x.mod(BigInteger.valueOf(2147483648L));
                    if (x.shiftRight(16).intValue() % 100 < w) comers += 1 << i;
                }
                sum += new Outcome(s, comers, -1).takings;
            }
            return sum;
        }

        long part(int what) {
            if (bad(in(what, 0, 1)) < 0) return -2;
            return (what == 0 ? above : below).longValueExact();
        }

        int image(int i) {
            if (bad(in(i, 0, 1)) < 0) return -2;
            images[i] = s.copy();
            return 1;
        }

        int from(int i) {
            if (bad(in(i, 0, 1)) < 0) return -2;
            if (images[i] == null) {
                refused[1]++;
                return -3;
            }
            s = images[i].copy();
            return 1;
        }

        int status(int what) {
            if (bad(in(what, 0, 2)) < 0) return -1;
            return refused[what];
        }

        int count(int what) {
            if (bad(in(what, 0, 7)) < 0) return -2;
            return counts()[what];
        }

        private int[] counts() {
            return new int[] {s.punnets, s.heat, s.buyers.size(), s.takings, s.thrown, s.sold.size(),
                s.past.size(), text.length()};
        }

        long digest() {
            List<Long> all = new ArrayList<>();
            for (int v : counts()) all.add((long) v);
            for (int v : s.prices) all.add((long) v);
            for (int v : s.theirs) all.add((long) v);
            all.add((long) s.rain);
            for (int[] b : s.buyers) for (int v : b) all.add((long) v);
            for (int[] e : s.sold) for (int v : e) all.add((long) v);
            all.add(above.longValueExact());
            all.add(below.longValueExact());
            return Due.fold(all.stream().mapToLong(v -> v).toArray());
        }
    }

    /** A text read by cutting it into tokens first. */
    private static final class Telling {
        private static final Pattern TOKENS = Pattern.compile("[a-z]+|[0-9]+|[^ ]", Pattern.DOTALL);
        private static final int[] LEAST = {0, 0, 0, 1};
        final State s = new State();
        int items = 0;
        private final List<String> tokens = new ArrayList<>();
        private final List<Integer> places = new ArrayList<>();

        Telling(String text) {
            Matcher m = TOKENS.matcher(text);
            while (m.find()) {
                tokens.add(m.group());
                places.add(m.start());
            }
            tokens.add("");
            places.add(text.length());
        }

        /** The place of the fault, or -1. */
        int fault() {
            int at = 0;
            while (items == 0 || !tokens.get(at).isEmpty()) {
                int[] most = mostOf(tokens.get(at));
                if (most == null) return places.get(at);
                String word = tokens.get(at++);
                int[] numbers = new int[most.length];
                for (int i = 0; i < most.length; i++, at++) {
                    if (!tokens.get(at).matches("[0-9]{1,2}")) return places.get(at);
                    numbers[i] = Integer.parseInt(tokens.get(at));
                    int least = word.equals("buyer") ? LEAST[i] : 0;
                    if (numbers[i] < least || numbers[i] > most[i]) return places.get(at);
                }
                if (!tokens.get(at).equals(";")) return places.get(at);
                at++;
                items++;
                put(word, numbers);
            }
            return -1;
        }

        private int[] mostOf(String word) {
            if (items == 0) return word.equals("market") ? new int[] {99, 9} : null;
            switch (word) {
                case "price": case "theirs": return new int[] {9, 99};
                case "rain": return new int[] {9};
                case "buyer": return s.buyers.size() == 8 ? null : new int[] {5, 9, 99, 3};
                default: return null;
            }
        }

        private void put(String word, int[] n) {
            switch (word) {
                case "market":
                    s.punnets = n[0];
                    s.heat = n[1];
                    break;
                case "price":
                    Arrays.fill(s.prices, n[0], 10, n[1]);
                    break;
                case "theirs":
                    s.theirs[n[0]] = n[1];
                    break;
                case "rain":
                    s.rain |= 1 << n[0];
                    break;
                default:
                    s.buyers.add(n);
            }
        }
    }

    /** One run: the same calls to the class and to the model. */
    private static final class Run {
        private static final String[] WORDS = {"price", "theirs", "rain", "buyer", "buyer", "buyer"};
        private final Random random;
        private final HalfByFive x = new HalfByFive();
        private final Model m = new Model();
        private int call = 0;
        private final int run;

        Run(int run) {
            this.run = run;
            random = new Random(run);
        }

        void go() {
            while (call < CALLS && due.wrong() == 0) {
                int r = random.nextInt(100);
                if (r < 3) tell();
                else if (r < 55) change();
                else ask();
                check("digest()", x.digest(), m.digest());
            }
            for (int i = 0; i < 3; i++) check("status(" + i + ")", x.status(i), m.status(i));
        }

        private void check(String what, long got, long want) {
            call++;
            due.in("run " + run + ", call " + call);
            due.is(what, got, want);
        }

        /** A number from least to most, now and then one at or behind an edge, or a very great one. */
        private int n(int least, int most) {
            int r = random.nextInt(150);
            if (r == 0) return least - 1;
            if (r == 1) return most + 1;
            if (r == 2) return random.nextBoolean() ? Integer.MIN_VALUE : Integer.MAX_VALUE;
            if (r == 3) return random.nextInt();
            if (r < 10) return least;
            if (r < 16) return most;
            return least + random.nextInt(most - least + 1);
        }

        private int someBuyer() {
            return n(0, Math.max(0, x.count(2) + random.nextInt(20) / 19 - 1));
        }

        private void change() {
            switch (random.nextInt(24)) {
                case 0: market(); break;
                case 1: case 2: bring(); break;
                case 3: case 4: case 5: price(); break;
                case 6: case 7: theirs(); break;
                case 8: rain(); break;
                case 9: case 10: case 11: case 12: case 13: buyer(); break;
                case 14: case 15: case 16: check("day()", x.day(), m.day()); break;
                case 17: case 18: check("undo()", x.undo(), m.undo()); break;
                case 19: sold(); break;
                case 20: check("forget()", x.forget(), m.forget()); break;
                case 21: case 22: image(); break;
                default: from();
            }
        }

        private void market() {
            if (random.nextInt(4) != 0) return;
            int a = n(0, 99);
            int b = n(0, 9);
            check("market(" + a + ", " + b + ")", x.market(a, b), m.market(a, b));
        }

        private void bring() {
            int a = random.nextBoolean() ? n(0, 12) : n(0, 99);
            check("bring(" + a + ")", x.bring(a), m.bring(a));
        }

        private void price() {
            int a = n(0, 9);
            int b = random.nextInt(3) == 0 ? n(0, 99) : n(0, 50);
            check("price(" + a + ", " + b + ")", x.price(a, b), m.price(a, b));
        }

        private void theirs() {
            int a = n(0, 9);
            int b = n(0, 99);
            check("theirs(" + a + ", " + b + ")", x.theirs(a, b), m.theirs(a, b));
        }

        private void rain() {
            int a = random.nextBoolean() ? n(0, 1023) : n(0, 1023) & n(0, 1023) & n(0, 1023);
            check("rain(" + a + ")", x.rain(a), m.rain(a));
        }

        private void buyer() {
            int a = n(0, 5);
            int b = n(0, 9);
            int c = n(0, 99);
            int d = n(1, 3);
            check("buyer(" + a + ", " + b + ", " + c + ", " + d + ")", x.buyer(a, b, c, d), m.buyer(a, b, c, d));
        }

        private void sold() {
            int a = n(0, 9);
            int b = random.nextInt(5) == 0 ? n(0, 99) : x.of(Math.floorMod(a, 10), 3);
            check("sold(" + a + ", " + b + ")", x.sold(a, b), m.sold(a, b));
        }

        private void image() {
            int a = n(0, 1);
            check("image(" + a + ")", x.image(a), m.image(a));
        }

        private void from() {
            int a = n(0, 1);
            check("from(" + a + ")", x.from(a), m.from(a));
        }

        private void ask() {
            int b = someBuyer();
            int h = n(0, 9);
            int c = n(0, 99);
            switch (random.nextInt(14)) {
                case 0: askOf(h); break;
                case 1: askAbout(b); break;
                case 2: takes(); break;
                case 3: case 4: askTo(b); break;
                case 5: best(); break;
                case 6: check("brings(" + c + ")", x.brings(c), m.brings(c)); break;
                case 7: check("come(" + b + ")", x.come(b), m.come(b)); break;
                case 8: stalls(); break;
                case 9: mean(); break;
                case 10: check("shout(" + h + ")", x.shout(h), m.shout(h)); break;
                case 11: check("may(" + b + ")", x.may(b), m.may(b)); break;
                case 12: drawn(); break;
                default: rest();
            }
        }

        private void askOf(int h) {
            int a = n(0, 3);
            check("of(" + h + ", " + a + ")", x.of(h, a), m.of(h, a));
        }

        private void askAbout(int b) {
            int a = n(0, 4);
            check("about(" + b + ", " + a + ")", x.about(b, a), m.about(b, a));
        }

        private void takes() {
            int a = n(0, 1);
            check("takes(" + a + ")", x.takes(a), m.takes(a));
        }

        private void askTo(int b) {
            int a = n(0, 3);
            check("to(" + b + ", " + a + ")", x.to(b, a), m.to(b, a));
        }

        private void best() {
            int a = n(0, 99);
            int b = n(0, Math.max(0, Math.min(99, a)));
            int c = n(0, Math.max(0, Math.min(99, b)));
            int d = n(0, 1);
            check("best(" + a + ", " + b + ", " + c + ", " + d + ")", x.best(a, b, c, d), m.best(a, b, c, d));
        }

        private void stalls() {
            int a = n(0, 99);
            int b = n(0, Math.max(0, Math.min(99, a)));
            int c = n(0, 1);
            check("stalls(" + a + ", " + b + ", " + c + ")", x.stalls(a, b, c), m.stalls(a, b, c));
        }

        private void mean() {
            int a = n(0, 10);
            check("mean(" + a + ")", x.mean(a), m.mean(a));
            check("part(0)", x.part(0), m.part(0));
            check("part(1)", x.part(1), m.part(1));
        }

        private void drawn() {
            int a = n(0, 999999);
            int b = n(0, 30);
            int c = n(0, 100);
            check("drawn(" + a + ", " + b + ", " + c + ")", x.drawn(a, b, c), m.drawn(a, b, c));
        }

        private void rest() {
            int a = n(0, 7);
            check("count(" + a + ")", x.count(a), m.count(a));
            int b = n(0, 1);
            check("part(" + b + ")", x.part(b), m.part(b));
            int c = n(0, 2);
            check("status(" + c + ")", x.status(c), m.status(c));
        }

        private void tell() {
            if (random.nextInt(4) != 0) check("clear()", x.clear(), m.clear());
            StringBuilder text = new StringBuilder();
            item(text, "market", 1, 0);
            int items = random.nextInt(9);
            for (int i = 0; i < items; i++) {
                int word = random.nextInt(200) == 0 ? -1 : random.nextInt(WORDS.length);
                item(text, word < 0 ? "market" : WORDS[word], word > 2 ? 3 : word == 2 ? 0 : 1, word);
            }
            if (random.nextInt(3) == 0) spoil(text);
            for (int i = 0; i < text.length(); i++) {
                int c = text.charAt(i);
                check("type(" + c + ")", x.type(c), m.type(c));
            }
            check("read() of '" + m.text + "'", x.read(), m.read());
        }

        private void item(StringBuilder text, String word, int more, int kind) {
            text.append(word);
            for (int i = 0; i <= more; i++) {
                text.append(random.nextInt(20) == 0 && i == 0 ? "" : " ");
                int most = i == 0 && !word.equals("market") ? 9 : i == 1 && kind > 2 ? 9 : 99;
                if (word.equals("market") && i == 1) most = 9;
                if (i == 0 && kind > 2) most = 5;
                int number = i == 3 ? 1 + random.nextInt(3) : random.nextInt(most + 1);
                if (random.nextInt(60) == 0) number = random.nextInt(120);
                text.append(number);
            }
            text.append(random.nextInt(9) == 0 ? " ; " : ";");
        }

        private void spoil(StringBuilder text) {
            int at = random.nextInt(text.length());
            int how = random.nextInt(4);
            if (how == 0) text.setLength(at);
            else if (how == 1) text.deleteCharAt(at);
            else if (how == 2) text.setCharAt(at, (char) random.nextInt(130));
            else text.insert(at, " ;0a9-".charAt(random.nextInt(6)));
        }
    }
}
