import java.util.ArrayList;
import java.util.Arrays;
import java.util.List;
import java.util.Random;

/**
 * Runs of calls drawn from fixed seeds, each answer held against a slow model that is written
 * another way: hours go for whole copies of the land, ways are walked one state at a time.
 */
public final class ModelTest {
    private static final int BEYOND = -1000000001;
    private static final int FULL = -1000000002;
    private static final int KIND = -1000000003;
    private static final int NONE = -1000000004;
    private static final int STATE = -1000000005;
    private static final int MISSING = -1000000006;
    private static final int SIZE = -1000000007;

    private static int wrong = 0;

    static final class One implements Cloneable {
        int kind;
        int place;
        int shade = 20;
        int cover;
        int dusk;
        int cash;

        One(int kind, int place) {
            this.kind = kind;
            this.place = place;
        }

        One twin() {
            One t = new One(kind, place);
            t.shade = shade;
            t.cover = cover;
            t.dusk = dusk;
            t.cash = cash;
            return t;
        }

        int cool(int hour) {
            int plain = shade / 4;
            switch (kind) {
                case 1: return plain / 2;
                case 2: return Math.max(0, plain - dusk);
                case 3: return shade / 2;
                case 4: return Math.max(0, plain / 2 - 2);
                case 5: return hour % 7 == 0 ? 0 : Math.max(0, plain - dusk);
                default: return plain;
            }
        }

        int fades(int heat) {
            int plain = heat >= 12 ? 2 : heat >= 6 ? 1 : 0;
            switch (kind) {
                case 2:
                case 5: return dusk >= 5 ? plain + 1 : plain;
                case 3: return plain + 1;
                case 4: return plain == 0 ? 0 : plain - 1;
                default: return plain;
            }
        }

        int value(int price) {
            switch (kind) {
                case 2: return (shade + dusk) * price;
                case 3: return shade * price / 2;
                case 4: return shade * price + (shade < 30 ? 0 : 50);
                case 5: return 0;
                default: return shade * price;
            }
        }
    }

    static final class World {
        int[] posts = new int[16];
        int[] prices = new int[16];
        int hour;
        int clouds;
        List<One> ones = new ArrayList<>();

        World() {
            Arrays.fill(prices, 10);
        }

        World twin() {
            World w = new World();
            w.posts = posts.clone();
            w.prices = prices.clone();
            w.hour = hour;
            w.clouds = clouds;
            for (One o : ones) {
                w.ones.add(o.twin());
            }
            return w;
        }

        static int heat(int hour) {
            int rest = hour % 24;
            return rest <= 12 ? rest : 24 - rest;
        }

        static boolean next(int a, int b) {
            return Math.abs(a / 4 - b / 4) + Math.abs(a % 4 - b % 4) == 1;
        }

        boolean finds(One o) {
            int s = posts[o.place];
            return s > 0 && clouds == 0 && o.shade > 0 && o.cool(hour) + heat(hour) / 3 + s > 9 + o.cover;
        }

        /** Those found, as a set. */
        int goHour() {
            for (One o : ones) {
                o.shade = Math.max(0, o.shade - o.fades(heat(hour)));
            }
            hour++;
            int found = 0;
            for (int i = 0; i < ones.size(); i++) {
                if (finds(ones.get(i))) {
                    found |= 1 << i;
                }
            }
            for (int i = 0; i < ones.size(); i++) {
                if ((found >> i & 1) == 1) {
                    ones.get(i).shade = 0;
                }
            }
            return found;
        }

        int shadeOn(int c, int n) {
            World w = twin();
            for (int i = 0; i < n; i++) {
                w.goHour();
            }
            return w.ones.get(c).shade;
        }

        int foundOn(int c) {
            World w = twin();
            for (int i = 1; i <= 60; i++) {
                if ((w.goHour() >> c & 1) == 1) {
                    return i;
                }
            }
            return NONE;
        }

        World only(int c) {
            World w = twin();
            One o = w.ones.get(c);
            w.ones.clear();
            w.ones.add(o);
            return w;
        }

        /** For hours 0 to n the worlds, one for each place that a free way can have come to, else null. */
        World[][] walk(int c, int n) {
            World[][] at = new World[n + 1][16];
            World first = only(c);
            at[0][first.ones.get(0).place] = first;
            for (int h = 0; h < n; h++) {
                for (int p = 0; p < 16; p++) {
                    if (at[h][p] == null) {
                        continue;
                    }
                    for (int q = 0; q < 16; q++) {
                        if (q != p && !next(p, q)) {
                            continue;
                        }
                        World w = at[h][p].twin();
                        w.ones.get(0).place = q;
                        if (w.goHour() == 0) {
                            at[h + 1][q] = w;
                        }
                    }
                }
            }
            return at;
        }

        int soonest(int c, int place) {
            World[][] at = walk(c, 48);
            for (int h = 0; h <= 48; h++) {
                if (at[h][place] != null) {
                    return h;
                }
            }
            return NONE;
        }

        int reach(int c, int n) {
            World[] at = walk(c, n)[n];
            int set = 0;
            for (int p = 0; p < 16; p++) {
                set |= at[p] == null ? 0 : 1 << p;
            }
            return set;
        }

        int cover(int c, int place, int n) {
            for (int cover = 0; cover < 10; cover++) {
                World w = only(c);
                w.ones.get(0).cover = cover;
                int h = w.soonest(0, place);
                if (h != NONE && h <= n) {
                    return cover;
                }
            }
            return NONE;
        }

        int[] best(int c, int n) {
            World[][] at = walk(c, n);
            int most = -1;
            int spot = -1;
            for (int h = 0; h <= n; h++) {
                for (int p = 0; p < 16; p++) {
                    if (at[h][p] == null) {
                        continue;
                    }
                    One o = at[h][p].ones.get(0);
                    int v = o.shade > 0 ? o.value(prices[p]) : 0;
                    if (v > most) {
                        most = v;
                        spot = 100 * h + p;
                    }
                }
            }
            return new int[] {most, spot};
        }

        int post(int c, int place) {
            int asItIs = soonest(c, place);
            int fewest = asItIs == NONE ? 49 : asItIs;
            int which = NONE;
            for (int p = 0; p < 16; p++) {
                World w = only(c);
                w.posts[p] = 0;
                int h = w.soonest(0, place);
                if (h != NONE && h < fewest) {
                    fewest = h;
                    which = p;
                }
            }
            return which;
        }

        int kind(int c, int n) {
            int most = -1;
            int which = -1;
            for (int k = 0; k < 6; k++) {
                World w = only(c);
                w.ones.get(0).kind = k;
                int v = w.best(0, n)[0];
                if (v > most) {
                    most = v;
                    which = k;
                }
            }
            return which;
        }

        int depart(int c, int place) {
            World w = only(c);
            int fewest = 49;
            int which = NONE;
            for (int d = 0; d < 24; d++) {
                int h = w.soonest(0, place);
                if (h != NONE && h < fewest) {
                    fewest = h;
                    which = d;
                }
                if (w.goHour() != 0) {
                    break;
                }
            }
            return which;
        }
    }

    static final class Model {
        static final String[] NAMES = {"carrier", "granny", "dealer", "caravan", "bride", "priest"};
        static final int[] ABOVE = {-1, 0, 0, 0, 1, 2};
        World w = new World();
        World kept;
        StringBuilder tape = new StringBuilder();
        long[][] sheets = new long[4][];
        int[] bits = new int[4];
        int[] findings = new int[7];

        long tally(long answer) {
            if (answer <= BEYOND && answer >= SIZE) {
                findings[(int) (BEYOND - answer)]++;
            }
            return answer;
        }

        boolean no(int c) {
            return c < 0 || c >= w.ones.size();
        }

        static boolean out(long v, long most) {
            return v < 0 || v > most;
        }

        static int place(World w, int p, int what, int v) {
            if (out(p, 15) || out(what, 1) || out(v, what == 0 ? 9 : 99)) {
                return BEYOND;
            }
            int[] row = what == 0 ? w.posts : w.prices;
            int was = row[p];
            row[p] = v;
            return was;
        }

        int of(int c, int what) {
            if (no(c) || out(what, 9)) {
                return BEYOND;
            }
            One o = w.ones.get(c);
            int[] all = {o.kind, o.place, o.shade, o.cover, o.dusk, o.cash, o.cool(w.hour),
                o.fades(World.heat(w.hour)), o.value(w.prices[o.place]), w.finds(o) ? 1 : 0};
            return all[what];
        }

        int set(int c, int what, int v) {
            int[] most = {-1, -1, 99, 9, 9, 999999};
            if (no(c) || out(what, 5) || out(v, most[what])) {
                return BEYOND;
            }
            int was = of(c, what);
            One o = w.ones.get(c);
            if (what == 2) {
                o.shade = v;
            } else if (what == 3) {
                o.cover = v;
            } else if (what == 4) {
                o.dusk = v;
            } else {
                o.cash = v;
            }
            return was;
        }

        int as(int c, int kind) {
            if (no(c) || out(kind, 5)) {
                return BEYOND;
            }
            for (int k = w.ones.get(c).kind; k >= 0; k = ABOVE[k]) {
                if (k == kind) {
                    return w.ones.get(c).shade;
                }
            }
            return KIND;
        }

        int placeOf(int p, int what) {
            if (out(p, 15) || out(what, 3)) {
                return BEYOND;
            }
            int set = 0;
            if (what == 2) {
                for (int i = 0; i < w.ones.size(); i++) {
                    set |= w.ones.get(i).place == p ? 1 << i : 0;
                }
                return set;
            }
            for (int q = 0; q < 16; q++) {
                set |= World.next(p, q) ? 1 << q : 0;
            }
            return what == 0 ? w.posts[p] : what == 1 ? w.prices[p] : set;
        }

        int now(int what) {
            int shade = 0;
            int cash = 0;
            int with = 0;
            int posts = 0;
            for (int i = 0; i < w.ones.size(); i++) {
                One o = w.ones.get(i);
                shade += o.shade;
                cash += o.cash;
                with |= o.shade > 0 ? 1 << i : 0;
            }
            for (int p = 0; p < 16; p++) {
                posts |= w.posts[p] > 0 ? 1 << p : 0;
            }
            int[] all = {w.hour, World.heat(w.hour), w.clouds, shade, cash, with, posts};
            return out(what, 6) ? BEYOND : all[what];
        }

        int sell(int c) {
            if (no(c)) {
                return BEYOND;
            }
            One o = w.ones.get(c);
            if (o.shade == 0) {
                return STATE;
            }
            int got = o.value(w.prices[o.place]);
            o.cash = Math.min(999999, o.cash + got);
            o.shade = 0;
            return got;
        }

        int firstFound() {
            int first = NONE;
            int fewest = 99;
            for (int i = 0; i < w.ones.size(); i++) {
                int h = w.foundOn(i);
                if (h != NONE && h < fewest) {
                    fewest = h;
                    first = i;
                }
            }
            return first;
        }

        int land() {
            String text = tape.toString();
            tape.setLength(0);
            List<String> tokens = new ArrayList<>();
            List<Integer> places = new ArrayList<>();
            java.util.regex.Matcher m = java.util.regex.Pattern.compile(" +|[a-z]+|[0-9]+|(?s:.)").matcher(text);
            while (m.find()) {
                if (m.group().charAt(0) != ' ') {
                    tokens.add(m.group());
                    places.add(m.start());
                }
            }
            tokens.add("");
            places.add(text.length());
            World draft = w.twin();
            int[] at = {0};
            int items = 0;
            while (true) {
                if (!item(draft, tokens, at)) {
                    return -1 - places.get(at[0]);
                }
                items++;
                String t = tokens.get(at[0]);
                if (t.isEmpty()) {
                    w = draft;
                    return items;
                }
                if (!t.equals(";")) {
                    return -1 - places.get(at[0]);
                }
                at[0]++;
            }
        }

        /** The number that comes, or -1. */
        static int number(List<String> tokens, int[] at, int most) {
            String t = tokens.get(at[0]);
            if (t.isEmpty() || !Character.isDigit(t.charAt(0))) {
                return -1;
            }
            java.math.BigInteger n = new java.math.BigInteger(t);
            if (n.compareTo(java.math.BigInteger.valueOf(most)) > 0) {
                return -1;
            }
            at[0]++;
            return n.intValue();
        }

        static boolean item(World draft, List<String> tokens, int[] at) {
            String t = tokens.get(at[0]);
            int kind = Arrays.asList(NAMES).indexOf(t);
            if (kind >= 0) {
                return carrierItem(draft, kind, tokens, at);
            }
            if (t.equals("clouds") || t.equals("sun")) {
                draft.clouds = t.equals("sun") ? 0 : 1;
                at[0]++;
                return true;
            }
            if (!t.equals("post") && !t.equals("price")) {
                return false;
            }
            at[0]++;
            int p = number(tokens, at, 15);
            int v = p < 0 ? -1 : number(tokens, at, t.equals("post") ? 9 : 99);
            if (v < 0) {
                return false;
            }
            place(draft, p, t.equals("post") ? 0 : 1, v);
            return true;
        }

        static boolean carrierItem(World draft, int kind, List<String> tokens, int[] at) {
            if (draft.ones.size() == 8) {
                return false;
            }
            at[0]++;
            if (!tokens.get(at[0]).equals("at")) {
                return false;
            }
            at[0]++;
            int p = number(tokens, at, 15);
            if (p < 0) {
                return false;
            }
            One o = new One(kind, p);
            String[] words = {"shade", "cover", "dusk"};
            int[] values = {20, 0, 0};
            for (int i = 0; i < 3; i++) {
                if (tokens.get(at[0]).equals(words[i])) {
                    at[0]++;
                    values[i] = number(tokens, at, i == 0 ? 99 : 9);
                    if (values[i] < 0) {
                        return false;
                    }
                }
            }
            o.shade = values[0];
            o.cover = values[1];
            o.dusk = values[2];
            draft.ones.add(o);
            return true;
        }

        static long cut(long v, int bits) {
            return v << (64 - bits) >> (64 - bits);
        }

        int sheet(int s, int b, int n) {
            if (out(s, 3) || (b != 0 && b != 8 && b != 16 && b != 64)) {
                return BEYOND;
            }
            if (n < 0) {
                return SIZE;
            }
            if (n > 40) {
                return BEYOND;
            }
            bits[s] = b;
            sheets[s] = b == 0 ? null : new long[n];
            return b == 0 ? 0 : n;
        }

        long write(int s, int i, long v) {
            if (out(s, 3)) {
                return BEYOND;
            }
            if (sheets[s] == null) {
                return MISSING;
            }
            if (i < 0 || i >= sheets[s].length) {
                return BEYOND;
            }
            long was = sheets[s][i];
            sheets[s][i] = cut(v, bits[s]);
            return was;
        }

        int copy(int s, int from, int t, int to, int n) {
            if (out(s, 3) || out(t, 3)) {
                return BEYOND;
            }
            if (sheets[s] == null || sheets[t] == null) {
                return MISSING;
            }
            if (bits[s] != bits[t]) {
                return KIND;
            }
            if (from < 0 || to < 0 || n < 0 || from > sheets[s].length - n || to > sheets[t].length - n) {
                return BEYOND;
            }
            long[] were = Arrays.copyOfRange(sheets[s], from, from + n);
            for (int i = 0; i < n; i++) {
                sheets[t][to + i] = were[i];
            }
            return n;
        }

        int lays(int s) {
            if (out(s, 3)) {
                return BEYOND;
            }
            if (sheets[s] == null) {
                return MISSING;
            }
            int came = 0;
            for (int i = 0; i < sheets[s].length; i++) {
                if (i < 16 && !out(sheets[s][i], 99)) {
                    w.prices[i] = (int) sheets[s][i];
                    came++;
                }
            }
            return came;
        }

        int book(int s, int c) {
            if (out(s, 3)) {
                return BEYOND;
            }
            if (sheets[s] == null) {
                return MISSING;
            }
            if (no(c)) {
                return BEYOND;
            }
            for (int i = 0; i < sheets[s].length; i++) {
                sheets[s][i] = w.shadeOn(c, i);
            }
            return sheets[s].length;
        }

        int read(int s, int c) {
            if (out(s, 3)) {
                return BEYOND;
            }
            if (sheets[s] == null) {
                return MISSING;
            }
            if (no(c)) {
                return BEYOND;
            }
            World walk = w.only(c);
            for (int i = 0; i < sheets[s].length; i++) {
                long q = sheets[s][i];
                int p = walk.ones.get(0).place;
                if (out(q, 15) || (q != p && !World.next(p, (int) q))) {
                    return 1 + i;
                }
                walk.ones.get(0).place = (int) q;
                if (walk.goHour() != 0) {
                    return 1 + i;
                }
            }
            return 0;
        }
    }

    /** Both sides of one run, and the calls so far. */
    static final class Pair {
        final ShadeCarpets x = new ShadeCarpets();
        final Model m = new Model();
        final Random r;
        final List<String> calls = new ArrayList<>();
        int style;

        Pair(long seed) {
            r = new Random(seed);
            style = r.nextInt(4);
        }

        void same(String call, long got, long want) {
            m.tally(want);
            calls.add(call);
            if (got != want) {
                wrong++;
                if (wrong <= 5) {
                    System.out.println(String.join("; ", calls) + " answered " + got + ", due is " + want);
                }
            }
        }

        /** 0 to most, seldom just outside, more seldom far. */
        int some(int most) {
            int luck = r.nextInt(60);
            if (luck == 0) {
                return r.nextBoolean() ? -1 : most + 1;
            }
            if (luck == 1) {
                return r.nextInt();
            }
            return r.nextInt(most + 1);
        }

        int who() {
            int n = m.w.ones.size();
            return n == 0 || r.nextInt(30) == 0 ? some(8) : r.nextInt(n);
        }

        void call() {
            int which = r.nextInt(48);
            if (which < 16) {
                landCall(which);
            } else if (which < 30) {
                searchCall(which);
            } else {
                otherCall(which);
            }
        }

        void landCall(int which) {
            int a = who();
            int p = some(15);
            if (which < 4) {
                int what = r.nextInt(4) == 0 ? some(1) : which & 1;
                int v = what == 0 ? (style == 0 || r.nextInt(3) == 0 ? some(9) : 9 - r.nextInt(3)) : some(99);
                same("place(" + p + "," + what + "," + v + ")", x.place(p, what, v), Model.place(m.w, p, what, v));
            } else if (which == 4) {
                int what = some(3);
                same("placeOf(" + p + "," + what + ")", x.placeOf(p, what), m.placeOf(p, what));
            } else if (which == 5) {
                int v = r.nextInt(3) == 0 ? some(1) : 0;
                int want = Model.out(v, 1) ? BEYOND : m.w.clouds;
                m.w.clouds = Model.out(v, 1) ? m.w.clouds : v;
                same("clouds(" + v + ")", x.clouds(v), want);
            } else if (which == 6) {
                int h = some(99999);
                same("heat(" + h + ")", x.heat(h), Model.out(h, 99999) ? BEYOND : World.heat(h));
            } else if (which == 7) {
                int k = some(5);
                int want = Model.out(k, 5) || Model.out(p, 15) ? BEYOND : m.w.ones.size() == 8 ? FULL : m.w.ones.size();
                if (want >= 0) {
                    m.w.ones.add(new One(k, p));
                }
                same("carrier(" + k + "," + p + ")", x.carrier(k, p), want);
            } else if (which < 11) {
                int what = r.nextInt(20) == 0 ? some(7) : 2 + r.nextInt(4);
                int v = what == 2 ? some(99) : what == 5 ? some(999999) : some(9);
                same("set(" + a + "," + what + "," + v + ")", x.set(a, what, v), m.set(a, what, v));
            } else if (which == 11) {
                int k = some(5);
                boolean bad = m.no(a) || Model.out(k, 5);
                int want = bad ? BEYOND : m.w.ones.get(a).kind;
                if (!bad) {
                    m.w.ones.get(a).kind = k;
                }
                same("turn(" + a + "," + k + ")", x.turn(a, k), want);
            } else if (which == 12) {
                int k = some(5);
                same("as(" + a + "," + k + ")", x.as(a, k), m.as(a, k));
            } else if (which == 13) {
                goCall(a, p);
            } else if (which == 14) {
                same("sell(" + a + ")", x.sell(a), m.sell(a));
            } else {
                int n = r.nextInt(4) == 0 ? some(60) : 1 + r.nextInt(8);
                int want = BEYOND;
                if (n >= 1 && n <= 60) {
                    for (int i = 0; i < n; i++) {
                        m.w.goHour();
                    }
                    want = m.now(3);
                }
                same("hours(" + n + ")", x.hours(n), want);
            }
        }

        void goCall(int a, int far) {
            int p = far;
            if (!m.no(a) && r.nextInt(3) > 0) {
                int q = m.w.ones.get(a).place + new int[] {-4, -1, 1, 4}[r.nextInt(4)];
                p = q;
            }
            int want = BEYOND;
            if (!m.no(a) && !Model.out(p, 15)) {
                One o = m.w.ones.get(a);
                want = World.next(o.place, p) ? o.shade : STATE;
                o.place = want == STATE ? o.place : p;
            }
            same("go(" + a + "," + p + ")", x.go(a, p), want);
        }

        void searchCall(int which) {
            int a = who();
            int p = some(15);
            int n = some(48);
            boolean noPlace = m.no(a) || Model.out(p, 15);
            boolean noHours = m.no(a) || Model.out(n, 48);
            switch (which) {
                case 16: {
                    int h = some(60);
                    same("on(" + a + "," + h + ")", x.on(a, h), m.no(a) || Model.out(h, 60) ? BEYOND : m.w.shadeOn(a, h));
                    break;
                }
                case 17:
                case 18:
                    same("found(" + a + ")", x.found(a), m.no(a) ? BEYOND : m.w.foundOn(a));
                    break;
                case 19:
                    same("firstFound()", x.firstFound(), m.firstFound());
                    break;
                case 20:
                case 21:
                    same("soonest(" + a + "," + p + ")", x.soonest(a, p), noPlace ? BEYOND : m.w.soonest(a, p));
                    break;
                case 22:
                    same("reach(" + a + "," + n + ")", x.reach(a, n), noHours ? BEYOND : m.w.reach(a, n));
                    break;
                case 23:
                    same("cover(" + a + "," + p + "," + n + ")", x.cover(a, p, n),
                        noPlace || noHours ? BEYOND : m.w.cover(a, p, n));
                    break;
                case 24:
                    same("best(" + a + "," + n + ")", x.best(a, n), noHours ? BEYOND : m.w.best(a, n)[0]);
                    break;
                case 25:
                    same("where(" + a + "," + n + ")", x.where(a, n), noHours ? BEYOND : m.w.best(a, n)[1]);
                    break;
                case 26:
                case 27:
                    same("post(" + a + "," + p + ")", x.post(a, p), noPlace ? BEYOND : m.w.post(a, p));
                    break;
                case 28:
                    same("kind(" + a + "," + n + ")", x.kind(a, n), noHours ? BEYOND : m.w.kind(a, n));
                    break;
                default:
                    same("depart(" + a + "," + p + ")", x.depart(a, p), noPlace ? BEYOND : m.w.depart(a, p));
            }
        }

        String text() {
            String[] bits = {"carrier", "granny", "dealer", "caravan", "bride", "priest", "at", "shade", "cover",
                "dusk", "post", "price", "clouds", "sun", ";", "0", "9", "10", "15", "16", "99", "100", "007", "x", "A", "\u00ff"};
            StringBuilder b = new StringBuilder();
            int items = 1 + r.nextInt(4);
            for (int i = 0; i < items; i++) {
                b.append(i == 0 ? "" : r.nextBoolean() ? ";" : " ; ");
                int sort = r.nextInt(4);
                if (sort == 0) {
                    b.append(r.nextBoolean() ? "post " : "price ").append(r.nextInt(16)).append(' ').append(r.nextInt(10));
                } else if (sort == 1) {
                    b.append(r.nextBoolean() ? "clouds" : "sun");
                } else {
                    b.append(bits[r.nextInt(6)]).append(" at ").append(r.nextInt(16));
                    b.append(r.nextBoolean() ? " shade " + r.nextInt(100) : "");
                    b.append(r.nextBoolean() ? "cover" + r.nextInt(10) : "");
                    b.append(r.nextBoolean() ? " dusk " + r.nextInt(10) : "");
                }
                if (r.nextInt(6) == 0) {
                    b.append(' ').append(bits[r.nextInt(bits.length)]);
                }
            }
            if (r.nextInt(5) == 0) {
                int at = r.nextInt(b.length());
                b.deleteCharAt(at);
            }
            if (r.nextInt(8) == 0) {
                b.setLength(r.nextInt(b.length() + 1));
            }
            return b.toString();
        }

        void feedCall(int number, int n) {
            int want = n < 1 || n > 4 ? BEYOND : m.tape.length() + n > 120 ? FULL : 0;
            if (want == 0) {
                for (int i = n - 1; i >= 0; i--) {
                    m.tape.append((char) (number >> 8 * i & 255));
                }
                want = m.tape.length();
            }
            same("feed(" + number + "," + n + ")", x.feed(number, n), want);
        }

        void feedText() {
            String t = text();
            for (int i = 0; i < t.length(); i += 4) {
                int n = Math.min(4, t.length() - i);
                int number = 0;
                for (int j = 0; j < n; j++) {
                    number = number << 8 | t.charAt(i + j);
                }
                feedCall(number, n);
            }
            same("land()", x.land(), m.land());
        }

        long sheetValue() {
            switch (r.nextInt(6)) {
                case 0: return r.nextLong();
                case 1: return r.nextInt(300) - 100;
                default: return r.nextInt(16);
            }
        }

        void writeWay(int s, int a) {
            int p = m.no(a) ? 0 : m.w.ones.get(a).place;
            int n = m.sheets[s] == null ? 0 : m.sheets[s].length;
            for (int i = 0; i < n; i++) {
                int q = p + new int[] {0, -4, -1, 1, 4}[r.nextInt(5)];
                if (q >= 0 && q < 16 && World.next(p, q)) {
                    p = q;
                }
                long v = p;
                same("write(" + s + "," + i + "," + v + ")", x.write(s, i, v), m.write(s, i, v));
            }
            same("read(" + s + "," + a + ")", x.read(s, a), m.read(s, a));
        }

        void otherCall(int which) {
            int a = who();
            int s = some(3);
            switch (which) {
                case 30:
                    feedText();
                    break;
                case 31:
                    if (r.nextInt(4) == 0) {
                        feedCall(r.nextInt(), some(5));
                    } else {
                        int had = m.tape.length();
                        m.tape.setLength(0);
                        same("wipe()", x.wipe(), had);
                    }
                    break;
                case 32: {
                    int b = r.nextInt(12) == 0 ? some(64) : new int[] {0, 8, 8, 16, 64}[r.nextInt(5)];
                    int n = r.nextInt(3) == 0 ? some(40) : r.nextInt(8);
                    same("sheet(" + s + "," + b + "," + n + ")", x.sheet(s, b, n), m.sheet(s, b, n));
                    break;
                }
                case 33:
                case 34:
                case 35: {
                    int i = some(6);
                    long v = sheetValue();
                    same("write(" + s + "," + i + "," + v + ")", x.write(s, i, v), m.write(s, i, v));
                    break;
                }
                case 36: {
                    int t = some(3);
                    int f = some(5);
                    int g = some(5);
                    int n = some(6);
                    same("copy(" + s + "," + f + "," + t + "," + g + "," + n + ")", x.copy(s, f, t, g, n), m.copy(s, f, t, g, n));
                    break;
                }
                case 37:
                    same("lays(" + s + ")", x.lays(s), m.lays(s));
                    break;
                case 38:
                    same("book(" + s + "," + a + ")", x.book(s, a), m.book(s, a));
                    break;
                case 39:
                    if (r.nextBoolean() && !Model.out(s, 3)) {
                        writeWay(s, a);
                    } else {
                        same("read(" + s + "," + a + ")", x.read(s, a), m.read(s, a));
                    }
                    break;
                default:
                    imageCall(which, a);
            }
        }

        void imageCall(int which, int a) {
            switch (which) {
                case 40:
                    m.kept = m.w.twin();
                    same("image()", x.image(), 1);
                    break;
                case 41:
                    m.w = m.kept == null ? m.w : m.kept.twin();
                    same("undo()", x.undo(), m.kept == null ? NONE : m.w.ones.size());
                    break;
                case 42: {
                    int was = m.kept == null ? 0 : 1;
                    m.kept = r.nextInt(3) == 0 ? null : m.kept;
                    if (m.kept == null) {
                        same("tear()", x.tear(), was);
                    }
                    break;
                }
                case 43: {
                    int what = some(3);
                    int prices = Arrays.stream(m.w.prices).sum();
                    int[] all = {m.w.ones.size(), m.tape.length(), Integer.bitCount(m.now(6)), prices};
                    same("count(" + what + ")", x.count(what), Model.out(what, 3) ? BEYOND : all[what]);
                    break;
                }
                case 44: {
                    int code = some(7) - 1;
                    int all = Arrays.stream(m.findings).sum();
                    int want = code == -1 ? all : Model.out(code, 6) ? BEYOND : m.findings[code];
                    same("status(" + code + ")", x.status(code), want);
                    break;
                }
                case 45: {
                    int what = some(6);
                    same("now(" + what + ")", x.now(what), m.now(what));
                    break;
                }
                default: {
                    int what = some(9);
                    same("of(" + a + "," + what + ")", x.of(a, what), m.of(a, what));
                }
            }
        }

        /** All that can be asked, at a run's end. */
        void dump() {
            for (int what = 0; what < 7; what++) {
                same("now(" + what + ")", x.now(what), m.now(what));
            }
            for (int a = 0; a < m.w.ones.size(); a++) {
                for (int what = 0; what < 10; what++) {
                    same("of(" + a + "," + what + ")", x.of(a, what), m.of(a, what));
                }
            }
            for (int p = 0; p < 16; p++) {
                for (int what = 0; what < 4; what++) {
                    same("placeOf(" + p + "," + what + ")", x.placeOf(p, what), m.placeOf(p, what));
                }
            }
            for (int code = 0; code < 7; code++) {
                same("status(" + code + ")", x.status(code), m.findings[code]);
            }
        }
    }

    public static void main(String[] args) {
        int runs = args.length > 0 ? Integer.parseInt(args[0]) : 40;
        for (int seed = 1; seed <= runs; seed++) {
            Pair pair = new Pair(seed);
            while (pair.calls.size() < 300) {
                pair.call();
            }
            pair.dump();
        }
        System.out.println(wrong == 0 ? "the model agrees" : wrong + " answers are not as the model's");
        if (wrong != 0) {
            System.exit(1);
        }
    }
}
