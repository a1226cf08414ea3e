import java.util.ArrayList;
import java.util.List;
import java.util.function.Supplier;

/**
 * Each sentence of the document that names a boundary case (too small, too large, empty, full, a
 * wrap-around, a refused call) has a test of its own here, in the document's order. A refused call
 * is made on one of two objects with the same calls behind them; then all that can be asked must
 * answer the same on both, and status() alone be one more.
 */
public final class BoundaryTest {
    private static final int BEYOND = -1000000001;
    private static final int FULL = -1000000002;
    private static final int KIND = -1000000003;
    private static final int NONE = -1000000004;
    private static final int STATE = -1000000005;
    private static final int MISSING = -1000000006;
    private static final int SIZE = -1000000007;
    private static final int LOW = Integer.MIN_VALUE;
    private static final int HIGH = Integer.MAX_VALUE;

    private static final int CARRIER = 0;
    private static final int GRANNY = 1;
    private static final int DEALER = 2;
    private static final int CARAVAN = 3;
    private static final int BRIDE = 4;
    private static final int PRIEST = 5;
    private static final String[] NAMES = {"carrier", "granny", "dealer", "caravan", "bride", "priest"};

    private static int wrong = 0;
    private static int asked = 0;

    /** One call. */
    interface Act {
        long on(ShadeCarpets x);
    }

    // ---- how it is asked

    private static void due(String sentence, long got, long want) {
        asked++;
        if (got != want) {
            wrong++;
            System.out.println(sentence + ": answered " + got + ", due is " + want);
        }
    }

    private static void dueAll(String sentence, List<Long> got, List<Long> want) {
        asked++;
        if (!got.equals(want)) {
            wrong++;
            System.out.println(sentence + ": told " + got + ", due is " + want);
        }
    }

    private static void refuses(String sentence, Supplier<ShadeCarpets> made, int finding, Act act) {
        ShadeCarpets x = made.get();
        List<Long> counts = counts(x);
        due(sentence, act.on(x), finding);
        int which = BEYOND - finding;
        counts.set(0, counts.get(0) + 1);
        counts.set(which + 1, counts.get(which + 1) + 1);
        dueAll(sentence + ", status", counts(x), counts);
        dueAll(sentence + ", all else", all(x), all(made.get()));
    }

    private static void changesNothing(String sentence, Supplier<ShadeCarpets> made, long want, Act act) {
        ShadeCarpets x = made.get();
        List<Long> counts = counts(x);
        due(sentence, act.on(x), want);
        dueAll(sentence + ", status", counts(x), counts);
        dueAll(sentence + ", all else", all(x), all(made.get()));
    }

    private static List<Long> counts(ShadeCarpets x) {
        List<Long> counts = new ArrayList<>();
        for (int which = -1; which < 7; which++) {
            counts.add((long) x.status(which));
        }
        return counts;
    }

    /** All that is in an object, with what it keeps and what its tape tells; it is spent then. */
    private static List<Long> all(ShadeCarpets x) {
        List<Long> all = new ArrayList<>();
        tellLand(x, all);
        for (int s = 0; s < 4; s++) {
            tellSheet(x, s, all);
        }
        all.add((long) x.count(1));
        all.add((long) x.undo());
        tellLand(x, all);
        all.add((long) x.land());
        for (int p = 0; p < 16; p++) {
            all.add((long) x.placeOf(p, 0));
        }
        all.add((long) x.now(2));
        all.add((long) x.count(0));
        all.add((long) x.tear());
        return all;
    }

    private static void tellLand(ShadeCarpets x, List<Long> all) {
        for (int p = 0; p < 16; p++) {
            for (int what = 0; what < 3; what++) {
                all.add((long) x.placeOf(p, what));
            }
        }
        int count = x.count(0);
        all.add((long) count);
        for (int c = 0; c < count; c++) {
            for (int what = 0; what < 6; what++) {
                all.add((long) x.of(c, what));
            }
        }
        all.add((long) x.now(0));
        all.add((long) x.now(2));
    }

    /** What is left of a long number tells how many bits it has. */
    private static void tellSheet(ShadeCarpets x, int s, List<Long> all) {
        for (int i = 0; i <= 40; i++) {
            long was = x.write(s, i, 0xFFFF7FFFL);
            all.add(was);
            if (was == BEYOND || was == MISSING) {
                return;
            }
            all.add(x.write(s, i, was));
        }
    }

    private static void feed(ShadeCarpets x, String text) {
        for (int i = 0; i < text.length(); i += 4) {
            int bytes = 0;
            int n = Math.min(4, text.length() - i);
            for (int j = 0; j < n; j++) {
                bytes = bytes << 8 | text.charAt(i + j);
            }
            x.feed(bytes, n);
        }
    }

    private static int land(ShadeCarpets x, String text) {
        feed(x, text);
        return x.land();
    }

    private static ShadeCarpets none() {
        return new ShadeCarpets();
    }

    /** One of a kind alone, at hour 0. */
    private static ShadeCarpets one(int kind, int place, int shade, int cover, int dusk) {
        ShadeCarpets x = new ShadeCarpets();
        x.carrier(kind, place);
        x.set(0, 2, shade);
        x.set(0, 3, cover);
        x.set(0, 4, dusk);
        return x;
    }

    /** One of a kind alone, at an hour. */
    private static ShadeCarpets oneAt(int hour, int kind, int place, int shade, int cover, int dusk) {
        ShadeCarpets x = one(kind, place, shade, cover, dusk);
        hours(x, hour);
        x.set(0, 2, shade);
        return x;
    }

    private static void hours(ShadeCarpets x, int n) {
        for (int left = n; left > 0; left -= 60) {
            x.hours(Math.min(60, left));
        }
    }

    private static void prices(ShadeCarpets x, int price) {
        for (int p = 0; p < 16; p++) {
            x.place(p, 1, price);
        }
    }

    /** Something of everything: 3 carriers, posts, prices, sheets 0 to 2, an image, a tape. */
    private static ShadeCarpets busy() {
        ShadeCarpets x = new ShadeCarpets();
        land(x, "dealer at 5 shade 40 cover 3 dusk 6;bride at 6 shade 99;priest at 0 shade 0");
        x.set(0, 5, 17);
        land(x, "post 1 3;post 6 9;post 15 1;price 2 80;price 15 0;price 0 99;clouds");
        x.image();
        x.clouds(0);
        x.place(1, 0, 9);
        x.place(3, 1, 33);
        x.go(1, 7);
        x.turn(2, CARAVAN);
        x.set(2, 2, 50);
        x.hours(3);
        int[] bits = {8, 16, 64};
        for (int s = 0; s < 3; s++) {
            x.sheet(s, bits[s], 5 - s);
            x.write(s, 0, -2);
            x.write(s, 2, 77);
        }
        feed(x, "clouds;post 3 7");
        return x;
    }

    /** 8 carriers and 120 bytes. */
    private static ShadeCarpets full() {
        ShadeCarpets x = new ShadeCarpets();
        for (int i = 0; i < 8; i++) {
            x.carrier(i % 6, 2 * i);
        }
        x.image();
        feed(x, "sun;".repeat(28) + "post 4 5");
        return x;
    }

    public static void main(String[] args) {
        termsFindings();
        termsPlaces();
        termsKinds();
        termsFound();
        termsHour();
        termsWay();
        promises1To5();
        promises6To10();
        promises11To14();
        promises15To17();
        promises18To20();
        promises21To22();
        promises23To25();
        promises26To27();
        promise28();
        promises29To31();
        promises32To34();
        promises35To39();
        System.out.println(wrong == 0 ? "all " + asked + " boundaries hold" : wrong + " answers are not as due");
        if (wrong != 0) {
            System.exit(1);
        }
    }

    // ---- Terms

    private static void termsFindings() {
        due("BEYOND is -1000000001", none().now(7), -1000000001);
        due("FULL is -1000000002", full().carrier(0, 0), -1000000002);
        due("KIND is -1000000003", busy().as(0, GRANNY), -1000000003);
        due("NONE is -1000000004", none().undo(), -1000000004);
        due("STATE is -1000000005", busy().go(0, 5), -1000000005);
        due("MISSING is -1000000006", none().lays(0), -1000000006);
        due("SIZE is -1000000007", none().sheet(0, 8, -1), -1000000007);
        due("in longs, too: BEYOND", none().write(4, 0, 0), -1000000001L);
        due("in longs, too: MISSING", none().write(0, 0, 0), -1000000006L);
        due("quotients are cut: a fourth of 23", one(CARRIER, 0, 23, 0, 0).of(0, 6), 5);
        due("quotients are cut: half of a fourth of 23", one(GRANNY, 0, 23, 0, 0).of(0, 6), 2);
        due("quotients are cut: half of 23", one(CARAVAN, 0, 23, 0, 0).of(0, 6), 11);
        due("quotients are cut: a sixth of 11", oneAt(11, CARRIER, 0, 23, 0, 0).of(0, 7), 1);
        ShadeCarpets half = one(CARAVAN, 0, 23, 0, 0);
        half.place(0, 1, 7);
        due("quotients are cut: half of 161", half.of(0, 8), 80);
        ShadeCarpets third = oneAt(8, CARRIER, 0, 4, 0, 0);
        third.place(0, 0, 7);
        due("quotients are cut: a third of 8, 1 and 2 and 7", third.of(0, 9), 1);
        third.place(0, 0, 6);
        due("quotients are cut: a third of 8, 1 and 2 and 6", third.of(0, 9), 0);
        ShadeCarpets sets = full();
        for (int p = 0; p < 16; p++) {
            sets.place(p, 0, 1);
        }
        due("sets by bits: all places", sets.now(6), 65535);
        due("sets by bits: all carriers", sets.now(5), 255);
        due("sets by bits: the last place alone", one(CARRIER, 15, 20, 0, 0).reach(0, 0), 32768);
        due("sets by bits: the last carrier alone", full().placeOf(14, 2), 128);
        due("sets by bits: none", none().now(5), 0);
    }

    private static void termsPlaces() {
        int[][] next = {{1, 4}, {0, 2, 5}, {1, 3, 6}, {2, 7}, {0, 5, 8}, {1, 4, 6, 9}, {2, 5, 7, 10}, {3, 6, 11},
            {4, 9, 12}, {5, 8, 10, 13}, {6, 9, 11, 14}, {7, 10, 15}, {8, 13}, {9, 12, 14}, {10, 13, 15}, {11, 14}};
        for (int p = 0; p < 16; p++) {
            int set = 0;
            for (int q : next[p]) {
                set |= 1 << q;
            }
            due("NEXT to " + p + ": no row goes on in the next, no column round", none().placeOf(p, 3), set);
            ShadeCarpets x = one(CARRIER, p, 20, 0, 0);
            due("a WAY stays or goes to one NEXT to " + p, x.reach(0, 1), set | 1 << p);
            for (int q = 0; q < 16; q++) {
                ShadeCarpets y = one(CARRIER, p, 20, 0, 0);
                due("to GO from " + p + " to " + q, y.go(0, q), (set >> q & 1) == 1 ? 20 : STATE);
                due("to GO from " + p + " to " + q + ", where it is", y.of(0, 1), (set >> q & 1) == 1 ? q : p);
            }
            due("POST 0 at first", none().placeOf(p, 0), 0);
            due("PRICE 10 at first", none().placeOf(p, 1), 10);
        }
        due("HOUR 0 at first", none().now(0), 0);
        due("CLOUDS 0 at first", none().now(2), 0);
        int[] heats = {0, 1, 2, 3, 4, 5, 6, 7, 8, 9, 10, 11, 12, 11, 10, 9, 8, 7, 6, 5, 4, 3, 2, 1};
        ShadeCarpets x = none();
        for (int h = 0; h < 100; h++) {
            due("HEAT by the rest by 24, of hour " + h, x.heat(h), heats[h % 24]);
            due("HEAT now, at hour " + h, x.now(1), heats[h % 24]);
            x.hours(1);
        }
    }

    private static void termsKinds() {
        for (int k = 0; k < 6; k++) {
            ShadeCarpets x = none();
            x.carrier(k, 3);
            int[] first = {k, 3, 20, 0, 0, 0};
            for (int what = 0; what < 6; what++) {
                due("at first, kind " + k + ", what " + what, x.of(0, what), first[what]);
            }
        }
        due("COOL with no SHADE", one(CARAVAN, 0, 0, 0, 0).of(0, 6), 0);
        due("COOL: a fourth, below", one(CARRIER, 0, 3, 0, 0).of(0, 6), 0);
        due("COOL: a fourth, just", one(CARRIER, 0, 4, 0, 0).of(0, 6), 1);
        due("COOL: a fourth of the most", one(CARRIER, 0, 99, 0, 0).of(0, 6), 24);
        due("COOL: half of as CARRIER, below", one(GRANNY, 0, 7, 0, 0).of(0, 6), 0);
        due("COOL: half of as CARRIER, just", one(GRANNY, 0, 8, 0, 0).of(0, 6), 1);
        due("COOL: half of SHADE, below", one(CARAVAN, 0, 1, 0, 0).of(0, 6), 0);
        due("COOL: half of SHADE, just", one(CARAVAN, 0, 2, 0, 0).of(0, 6), 1);
        due("COOL of a dealer is 0 at least, above", one(DEALER, 0, 40, 0, 9).of(0, 6), 1);
        due("COOL of a dealer is 0 at least, just", one(DEALER, 0, 36, 0, 9).of(0, 6), 0);
        due("COOL of a dealer is 0 at least, below", one(DEALER, 0, 35, 0, 9).of(0, 6), 0);
        due("COOL of a bride is 0 at least, above", one(BRIDE, 0, 24, 0, 9).of(0, 6), 1);
        due("COOL of a bride is 0 at least, just", one(BRIDE, 0, 16, 0, 9).of(0, 6), 0);
        due("COOL of a bride is 0 at least, below", one(BRIDE, 0, 15, 0, 9).of(0, 6), 0);
        due("COOL of a priest is 0 at least", oneAt(1, PRIEST, 0, 35, 0, 9).of(0, 6), 0);
        for (int h = 0; h < 30; h++) {
            due("COOL of a priest at hour " + h, oneAt(h, PRIEST, 0, 40, 0, 3).of(0, 6), h % 7 == 0 ? 0 : 7);
            due("COOL of a dealer at hour " + h, oneAt(h, DEALER, 0, 40, 0, 3).of(0, 6), 7);
        }
        int[] sixths = {0, 0, 0, 0, 0, 0, 1, 1, 1, 1, 1, 1, 2, 1, 1, 1, 1, 1, 1, 0, 0, 0, 0, 0};
        for (int h = 0; h < 24; h++) {
            int[] fades = {sixths[h], sixths[h], sixths[h], sixths[h] + 1, Math.max(0, sixths[h] - 1), sixths[h]};
            for (int k = 0; k < 6; k++) {
                due("FADES: kind " + k + " with DUSK 4 at " + h, oneAt(h, k, 0, 20, 0, 4).of(0, 7), fades[k]);
                int more = k == DEALER || k == PRIEST ? 1 : 0;
                due("FADES: kind " + k + " with DUSK 5 at " + h, oneAt(h, k, 0, 20, 0, 5).of(0, 7), fades[k] + more);
            }
        }
        due("VALUE: no bride's 50 below 30", one(BRIDE, 0, 29, 0, 0).of(0, 8), 290);
        due("VALUE: a bride's 50 with 30", one(BRIDE, 0, 30, 0, 0).of(0, 8), 350);
        due("VALUE: p for each of DUSK, none", one(DEALER, 0, 29, 0, 0).of(0, 8), 290);
        due("VALUE: p for each of DUSK, 9", one(DEALER, 0, 29, 0, 9).of(0, 8), 380);
        int[] most = {99 * 99, 99 * 99, 108 * 99, 99 * 99 / 2, 99 * 99 + 50, 0};
        int[] least = {0, 0, 0, 0, 50, 0};
        int[] empty = {0, 0, 9 * 99, 0, 0, 0};
        for (int k = 0; k < 6; k++) {
            ShadeCarpets x = one(k, 0, 99, 0, 9);
            x.place(0, 1, 99);
            due("VALUE: the most of kind " + k, x.of(0, 8), most[k]);
            x.place(0, 1, 0);
            due("VALUE: at PRICE 0 of kind " + k, x.of(0, 8), least[k]);
            x.place(0, 1, 99);
            x.set(0, 2, 0);
            due("VALUE: with no SHADE of kind " + k, x.of(0, 8), empty[k]);
        }
    }

    private static void termsFound() {
        for (int cover = 0; cover < 10; cover++) {
            for (int s = 1; s < 10; s++) {
                for (int cool = 1; cool < 20; cool++) {
                    ShadeCarpets x = one(CARRIER, 5, 4 * cool, cover, 0);
                    x.place(5, 0, s);
                    int found = cool + s > 9 + cover ? 1 : 0;
                    due("FOUND: COOL " + cool + " and " + s + " above 9 and " + cover, x.of(0, 9), found);
                }
            }
        }
        ShadeCarpets x = one(CARAVAN, 5, 99, 0, 0);
        due("FOUND by no POST 0", x.of(0, 9), 0);
        x.place(5, 0, 1);
        due("FOUND by a POST 1", x.of(0, 9), 1);
        x.clouds(1);
        due("FOUND under no CLOUDS", x.of(0, 9), 0);
        for (int h = 0; h < 24; h++) {
            int heat = 12 - Math.abs(h - 12);
            ShadeCarpets y = oneAt(h, CARRIER, 5, 1, 0, 0);
            for (int s = 1; s < 10; s++) {
                y.place(5, 0, s);
                due("FOUND: SHADE 1, POST " + s + ", hour " + h, y.of(0, 9), heat / 3 + s > 9 ? 1 : 0);
            }
            y.set(0, 2, 0);
            due("FOUND with no SHADE, hour " + h, y.of(0, 9), 0);
        }
    }

    private static void termsHour() {
        ShadeCarpets x = oneAt(12, CARAVAN, 0, 2, 0, 0);
        due("SHADE is 0 at least: 2 less 3", x.hours(1), 0);
        x = oneAt(12, CARAVAN, 0, 3, 0, 0);
        due("SHADE is 0 at least: 3 less 3", x.hours(1), 0);
        x = oneAt(12, CARAVAN, 0, 4, 0, 0);
        due("SHADE is 0 at least: 4 less 3", x.hours(1), 1);
        x = oneAt(5, CARRIER, 0, 20, 0, 0);
        due("it FADES by HEAT of that HOUR, 5, not of the next", x.hours(1), 20);
        x = oneAt(18, CARRIER, 0, 20, 0, 0);
        due("it FADES by HEAT of that HOUR, 6, not of the next", x.hours(1), 19);
        x = oneAt(2, CARRIER, 0, 20, 0, 0);
        x.place(0, 0, 4);
        due("FOUND at the HOUR that is 1 more: 5 and 1 and 4", x.hours(1), 0);
        x = oneAt(21, CARRIER, 0, 20, 0, 0);
        x.place(0, 0, 4);
        due("FOUND at the HOUR that is 1 more: 5 and 0 and 4", x.hours(1), 20);
        x = oneAt(6, PRIEST, 0, 40, 0, 0);
        x.place(0, 0, 2);
        due("FOUND at the HOUR that is 1 more: a priest at 7", x.hours(1), 39);
        due("FOUND at the HOUR that is 1 more: a priest at 8", x.hours(1), 0);
        x = oneAt(6, CARRIER, 0, 20, 0, 0);
        x.place(0, 0, 3);
        due("first it FADES, then it is FOUND: 4 and 2 and 3", x.hours(1), 19);
        x = oneAt(6, CARRIER, 0, 21, 0, 0);
        x.place(0, 0, 3);
        due("first it FADES, then it is FOUND: 5 and 2 and 3", x.hours(1), 0);
        x = oneAt(6, CARRIER, 0, 1, 0, 0);
        x.place(0, 0, 9);
        due("what has faded is not FOUND", x.found(0), NONE);
        x = one(CARRIER, 0, 99, 0, 0);
        x.place(1, 0, 9);
        due("to GO: at once", x.go(0, 1), 99);
        due("to GO: not FOUND then", x.of(0, 2), 99);
        due("to GO: no HOUR", x.now(0), 0);
        x.go(0, 2);
        due("FOUND there at the next HOUR alone: it has gone on", x.hours(1), 99);
        x.go(0, 1);
        due("FOUND there at the next HOUR: it has stayed", x.hours(1), 0);
        x.place(1, 0, 0);
        x.set(0, 2, 99);
        x.place(2, 0, 9);
        x.hours(1);
        due("FOUND where it is, not where it was", x.of(0, 2), 99);
    }

    private static void termsWay() {
        ShadeCarpets x = one(CARRIER, 0, 99, 0, 0);
        x.place(0, 0, 9);
        due("a WAY of no HOURS is free, be it FOUND where it is", x.reach(0, 0), 1);
        due("a WAY of an HOUR is not, if it stays", x.reach(0, 1), 1 << 1 | 1 << 4);
        due("a WAY of 2 HOURS is not, if it comes back", x.reach(0, 2) & 1, 0);
        x.carrier(CARAVAN, 3);
        x.place(3, 0, 9);
        due("all else as it is: another's being FOUND is nothing to it", x.soonest(0, 2), 2);
        x.clouds(1);
        due("a WAY under CLOUDS is free", x.reach(0, 1), 1 | 1 << 1 | 1 << 4);
        ShadeCarpets y = one(CARAVAN, 0, 1, 0, 0);
        y.place(0, 0, 9);
        y.place(1, 0, 9);
        due("a WAY of one whose SHADE has faded is free", y.reach(0, 1), 1 | 1 << 1 | 1 << 4);
        ShadeCarpets z = one(CARRIER, 0, 40, 0, 0);
        z.place(0, 0, 9);
        z.place(1, 0, 9);
        z.place(4, 0, 9);
        due("what a POST has taken makes no WAY free later", z.reach(0, 48), 0);
        due("ON it is taken", z.on(0, 1), 0);
        due("ON nothing changes", z.of(0, 2), 40);
    }

    // ---- Promises 1 to 5

    private static void promises1To5() {
        ShadeCarpets x = none();
        due("1: no CARRIERS", x.count(0), 0);
        due("1: no CARRIERS, none is FOUND", x.firstFound(), NONE);
        due("1: no CARRIERS, none has SHADE", x.hours(60), 0);
        due("1: THE TAPE is empty", x.count(1), 0);
        due("1: THE TAPE is empty, had none", x.wipe(), 0);
        due("1: no image is kept", x.undo(), NONE);
        due("1: no image is kept, none to tear", x.tear(), 0);
        dueAll("1: no findings", counts(none()), List.of(0L, 0L, 0L, 0L, 0L, 0L, 0L, 0L));
        for (int s = 0; s < 4; s++) {
            due("1: sheets are MISSING", none().write(s, 0, 0), MISSING);
        }
        for (int p = 0; p < 16; p += 15) {
            due("2: POST 9 of " + p, x.place(p, 0, 9), 0);
            due("2: POST 0 of " + p, x.place(p, 0, 0), 9);
            due("2: POST is 0", x.placeOf(p, 0), 0);
            due("2: PRICE 99 of " + p, x.place(p, 1, 99), 10);
            due("2: PRICE 0 of " + p, x.place(p, 1, 0), 99);
            due("2: PRICE is 0", x.placeOf(p, 1), 0);
        }
        int[][] bad = {{-1, 0, 5}, {16, 0, 5}, {LOW, 0, 5}, {HIGH, 0, 5}, {-1, 1, 5}, {16, 1, 5}, {0, -1, 5}, {0, 2, 5},
            {0, LOW, 5}, {0, HIGH, 5}, {0, 0, -1}, {0, 0, 10}, {0, 0, LOW}, {0, 0, HIGH}, {15, 0, 99}, {0, 1, -1},
            {0, 1, 100}, {0, 1, LOW}, {0, 1, HIGH}};
        for (int[] b : bad) {
            refuses("2: place(" + b[0] + ", " + b[1] + ", " + b[2] + ")", BoundaryTest::busy, BEYOND,
                y -> y.place(b[0], b[1], b[2]));
        }
        int[][] notOf = {{-1, 0}, {16, 0}, {-1, 3}, {16, 3}, {LOW, 2}, {HIGH, 2}, {0, -1}, {15, 4}, {0, LOW}, {0, HIGH}};
        for (int[] b : notOf) {
            refuses("3: placeOf(" + b[0] + ", " + b[1] + ")", BoundaryTest::busy, BEYOND, y -> y.placeOf(b[0], b[1]));
        }
        changesNothing("3: no CARRIERS AT it", BoundaryTest::busy, 0, y -> y.placeOf(15, 2));
        changesNothing("3: the last of them AT it", BoundaryTest::busy, 4, y -> y.placeOf(0, 2));
        ShadeCarpets crowd = none();
        for (int i = 0; i < 8; i++) {
            crowd.carrier(0, 15);
        }
        due("3: all CARRIERS AT the last", crowd.placeOf(15, 2), 255);
        for (int v : new int[] {-1, 2, LOW, HIGH}) {
            refuses("4: clouds(" + v + ")", BoundaryTest::busy, BEYOND, y -> y.clouds(v));
        }
        due("4: 0 as they were", x.clouds(0), 0);
        due("4: 1 now", x.clouds(1), 0);
        due("4: 1 as they were", x.clouds(1), 1);
        due("4: 0 now", x.clouds(0), 1);
        for (int h : new int[] {-1, 100000, -24, LOW, HIGH}) {
            refuses("5: heat(" + h + ")", BoundaryTest::busy, BEYOND, y -> y.heat(h));
        }
        changesNothing("5: the first hour", BoundaryTest::busy, 0, y -> y.heat(0));
        changesNothing("5: the last hour, rest 15", BoundaryTest::busy, 9, y -> y.heat(99999));
        changesNothing("5: rest 23", BoundaryTest::busy, 1, y -> y.heat(23));
        changesNothing("5: rest 0 again", BoundaryTest::busy, 0, y -> y.heat(24));
    }

    // ---- Promises 6 to 10

    private static void promises6To10() {
        int[][] bad = {{-1, 0}, {6, 0}, {LOW, 0}, {HIGH, 0}, {0, -1}, {0, 16}, {0, LOW}, {0, HIGH}};
        for (int[] b : bad) {
            refuses("6: carrier(" + b[0] + ", " + b[1] + ")", BoundaryTest::busy, BEYOND, y -> y.carrier(b[0], b[1]));
            refuses("6: BEYOND before FULL", BoundaryTest::full, BEYOND, y -> y.carrier(b[0], b[1]));
        }
        refuses("6: FULL, a 9th", BoundaryTest::full, FULL, y -> y.carrier(0, 0));
        ShadeCarpets x = none();
        for (int i = 0; i < 8; i++) {
            due("6: the number, up to the 8th", x.carrier(5 - i % 6, 15 - i), i);
        }
        for (int c : new int[] {-1, 3, 8, LOW, HIGH}) {
            refusesCarrier(c);
        }
        for (int what : new int[] {-1, 10, LOW, HIGH}) {
            refuses("7: of(0, " + what + ")", BoundaryTest::busy, BEYOND, y -> y.of(0, what));
        }
        refuses("7: of the first, where there is none", BoundaryTest::none, BEYOND, y -> y.of(0, 0));
        for (int what = 0; what < 10; what++) {
            int w = what;
            changesNothing("7: of the last of 3", BoundaryTest::busy,
                new int[] {CARAVAN, 0, 47, 0, 0, 0, 23, 1, 2326, 0}[w], y -> y.of(2, w));
        }
        int[] most = {0, 0, 99, 9, 9, 999999};
        for (int what = 2; what < 6; what++) {
            int w = what;
            for (int v : new int[] {-1, most[w] + 1, LOW, HIGH}) {
                refuses("8: set(0, " + w + ", " + v + ")", BoundaryTest::busy, BEYOND, y -> y.set(0, w, v));
            }
            ShadeCarpets y = busy();
            y.set(0, w, most[w]);
            due("8: the most of " + w, y.of(0, w), most[w]);
            due("8: was the most of " + w, y.set(0, w, 0), most[w]);
            due("8: the least of " + w, y.of(0, w), 0);
        }
        for (int what : new int[] {-1, 0, 1, 6, 7, 8, 9, LOW, HIGH}) {
            refuses("8: set(0, " + what + ", 1)", BoundaryTest::busy, BEYOND, y -> y.set(0, what, 1));
        }
        for (int kind : new int[] {-1, 6, LOW, HIGH}) {
            refuses("9: turn(0, " + kind + ")", BoundaryTest::busy, BEYOND, y -> y.turn(0, kind));
            refuses("10: as(0, " + kind + ")", BoundaryTest::busy, BEYOND, y -> y.as(0, kind));
        }
        ShadeCarpets z = busy();
        due("9: to the last KIND", z.turn(0, 5), DEALER);
        due("9: to the first KIND", z.turn(0, 0), 5);
        due("9: the first KIND", z.of(0, 0), 0);
        asKinds();
        changesNothing("10: SHADE 0, of its own kind", () -> one(PRIEST, 0, 0, 0, 0), 0, y -> y.as(0, PRIEST));
    }

    /** Every act that names one of the CARRIERS refuses one that isn't. */
    private static void refusesCarrier(int c) {
        String no = "(" + c + ", ..)";
        Supplier<ShadeCarpets> busy = BoundaryTest::busy;
        refuses("7: of" + no, busy, BEYOND, y -> y.of(c, 0));
        refuses("8: set" + no, busy, BEYOND, y -> y.set(c, 2, 1));
        refuses("9: turn" + no, busy, BEYOND, y -> y.turn(c, 0));
        refuses("10: as" + no + ", BEYOND before KIND", busy, BEYOND, y -> y.as(c, GRANNY));
        refuses("11: go" + no + ", BEYOND before STATE", busy, BEYOND, y -> y.go(c, 15));
        refuses("12: sell" + no, busy, BEYOND, y -> y.sell(c));
        refuses("15: on" + no, busy, BEYOND, y -> y.on(c, 1));
        refuses("16: found" + no, busy, BEYOND, y -> y.found(c));
        refuses("18: soonest" + no, busy, BEYOND, y -> y.soonest(c, 0));
        refuses("19: reach" + no, busy, BEYOND, y -> y.reach(c, 1));
        refuses("20: cover" + no, busy, BEYOND, y -> y.cover(c, 0, 1));
        refuses("21: best" + no, busy, BEYOND, y -> y.best(c, 1));
        refuses("22: where" + no, busy, BEYOND, y -> y.where(c, 1));
        refuses("23: post" + no, busy, BEYOND, y -> y.post(c, 0));
        refuses("24: kind" + no, busy, BEYOND, y -> y.kind(c, 1));
        refuses("25: depart" + no, busy, BEYOND, y -> y.depart(c, 0));
        refuses("33: book" + no, busy, BEYOND, y -> y.book(0, c));
        refuses("34: read" + no, busy, BEYOND, y -> y.read(0, c));
        refuses("33: book" + no + ", MISSING before BEYOND", busy, MISSING, y -> y.book(3, c));
        refuses("34: read" + no + ", MISSING before BEYOND", busy, MISSING, y -> y.read(3, c));
    }

    private static void asKinds() {
        int[] above = {-1, CARRIER, CARRIER, CARRIER, GRANNY, DEALER};
        for (int k = 0; k < 6; k++) {
            for (int as = 0; as < 6; as++) {
                boolean is = k == as || above[k] == as || as == CARRIER;
                int kind = k;
                int asKind = as;
                Supplier<ShadeCarpets> made = () -> one(kind, 3, 44, 1, 2);
                String sentence = "10: " + NAMES[k] + " as " + NAMES[as];
                if (is) {
                    changesNothing(sentence, made, 44, y -> y.as(0, asKind));
                } else {
                    refuses(sentence, made, KIND, y -> y.as(0, asKind));
                }
            }
        }
    }

    // ---- Promises 11 to 14

    private static void promises11To14() {
        for (int p : new int[] {-1, 16, LOW, HIGH}) {
            refusesPlace(p);
        }
        refuses("11: STATE, where it is", BoundaryTest::busy, STATE, y -> y.go(0, 5));
        refuses("11: STATE, askew", BoundaryTest::busy, STATE, y -> y.go(0, 10));
        refuses("11: STATE, two off", BoundaryTest::busy, STATE, y -> y.go(0, 7));
        refuses("11: STATE, 7 and 8 in two rows", BoundaryTest::busy, STATE, y -> y.go(1, 8));
        due("11: with no SHADE", one(GRANNY, 12, 0, 0, 0).go(0, 13), 0);
        sells();
        for (int n : new int[] {0, -1, 61, LOW, HIGH}) {
            refuses("13: hours(" + n + ")", BoundaryTest::busy, BEYOND, y -> y.hours(n));
        }
        ShadeCarpets x = one(CARRIER, 0, 99, 0, 0);
        due("13: 1 HOUR", x.hours(1), 99);
        due("13: 1 HOUR more", x.now(0), 1);
        due("13: 60 HOURS, of which 27 have a HEAT of 6 or more, 6 or 12 two times", x.hours(60), 99 - 14 - 14 - 8);
        due("13: 60 HOURS more", x.now(0), 61);
        ShadeCarpets all = full();
        due("13: all 8 in 60 HOURS, a bride alone has SHADE then", all.hours(60), 18);
        due("13: all 8 in 60 HOURS", all.now(5), 1 << 4);
        lastHour();
        for (int what : new int[] {-1, 7, LOW, HIGH}) {
            refuses("14: now(" + what + ")", BoundaryTest::busy, BEYOND, y -> y.now(what));
        }
        ShadeCarpets most = none();
        for (int i = 0; i < 8; i++) {
            most.carrier(0, i);
            most.set(i, 2, 99);
            most.set(i, 5, 999999);
        }
        due("14: SHADE of all, the most", most.now(3), 792);
        due("14: CASH of all, the most", most.now(4), 7999992);
        due("14: all have SHADE", most.now(5), 255);
        most.set(7, 2, 0);
        due("14: the last has none", most.now(5), 127);
        most.set(7, 2, 1);
        due("14: the last has 1", most.now(5), 255);
        for (int what = 0; what < 7; what++) {
            due("14: of a new one, what " + what, none().now(what), 0);
        }
        most.place(15, 0, 1);
        due("14: PLACES with a POST, the last", most.now(6), 32768);
        most.place(15, 0, 0);
        due("14: PLACES with a POST, none", most.now(6), 0);
    }

    /** Every act that names one of the PLACES refuses one that isn't. */
    private static void refusesPlace(int p) {
        String no = "(.., " + p + ")";
        Supplier<ShadeCarpets> busy = BoundaryTest::busy;
        refuses("11: go" + no + ", BEYOND before STATE", busy, BEYOND, y -> y.go(0, p));
        refuses("18: soonest" + no, busy, BEYOND, y -> y.soonest(0, p));
        refuses("20: cover" + no, busy, BEYOND, y -> y.cover(0, p, 1));
        refuses("23: post" + no, busy, BEYOND, y -> y.post(0, p));
        refuses("25: depart" + no, busy, BEYOND, y -> y.depart(0, p));
    }

    private static void sells() {
        refuses("12: STATE, no SHADE", () -> one(CARRIER, 3, 0, 4, 5), STATE, y -> y.sell(0));
        refuses("12: STATE, no SHADE, though its DUSK has a VALUE", () -> one(DEALER, 3, 0, 4, 5), STATE, y -> y.sell(0));
        ShadeCarpets x = one(CARRIER, 3, 1, 0, 0);
        due("12: SHADE 1", x.sell(0), 10);
        due("12: SHADE is 0 then", x.of(0, 2), 0);
        due("12: CASH is more", x.of(0, 5), 10);
        due("12: DUSK stays, with COVER and PLACE", x.of(0, 4) + x.of(0, 3) + x.of(0, 1), 3);
        int[][] edges = {{999988, 999998}, {999989, 999999}, {999990, 999999}, {999999, 999999}};
        for (int[] edge : edges) {
            x.set(0, 2, 1);
            x.set(0, 5, edge[0]);
            due("12: the whole VALUE, with CASH " + edge[0], x.sell(0), 10);
            due("12: CASH 999999 at most, from " + edge[0], x.of(0, 5), edge[1]);
        }
        x.set(0, 5, 7);
        x.set(0, 2, 99);
        x.place(3, 1, 0);
        due("12: at PRICE 0", x.sell(0), 0);
        due("12: at PRICE 0 its SHADE goes", x.of(0, 2), 0);
        x.turn(0, PRIEST);
        x.place(3, 1, 99);
        x.set(0, 2, 99);
        due("12: a priest gets 0", x.sell(0), 0);
        due("12: a priest's CASH stays", x.of(0, 5), 7);
        due("12: a priest's SHADE goes", x.of(0, 2), 0);
    }

    /**
     * 512 calls can't come so far, and what later calls answer is free; this class means to hold
     * the bound there, too.
     */
    private static ShadeCarpets lateAt(int hour) {
        ShadeCarpets x = one(BRIDE, 5, 99, 3, 4);
        hours(x, hour);
        x.set(0, 2, 99);
        return x;
    }

    private static void lastHour() {
        refuses("13: STATE, HOUR would be 100000", () -> lateAt(99999), STATE, y -> y.hours(1));
        refuses("13: STATE, HOUR would be 100000 behind 60", () -> lateAt(99940), STATE, y -> y.hours(60));
        refuses("13: BEYOND before STATE", () -> lateAt(99999), BEYOND, y -> y.hours(61));
        refuses("13: BEYOND before STATE", () -> lateAt(99999), BEYOND, y -> y.hours(0));
        ShadeCarpets x = lateAt(99939);
        due("13: 60 HOURS up to 99999", x.hours(60), 96);
        due("13: HOUR 99999", x.now(0), 99999);
        due("13: HEAT of HOUR 99999", x.now(1), 9);
    }

    // ---- Promises 15 to 17

    private static void promises15To17() {
        for (int n : new int[] {-1, 61, LOW, HIGH}) {
            refuses("15: on(0, " + n + ")", BoundaryTest::busy, BEYOND, y -> y.on(0, n));
        }
        changesNothing("15: ON 0 HOURS", BoundaryTest::busy, 37, y -> y.on(0, 0));
        changesNothing("15: ON 60 HOURS", () -> one(CARRIER, 0, 99, 0, 0), 65, y -> y.on(0, 60));
        changesNothing("15: ON 59 HOURS", () -> one(CARRIER, 0, 99, 0, 0), 66, y -> y.on(0, 59));
        changesNothing("15: 0 at least", () -> one(CARAVAN, 0, 5, 0, 0), 0, y -> y.on(0, 60));
        changesNothing("15: 1 left", () -> one(CARAVAN, 0, 5, 0, 0), 1, y -> y.on(0, 4));
        changesNothing("15: with no SHADE", () -> one(CARAVAN, 0, 0, 0, 0), 0, y -> y.on(0, 1));
        changesNothing("15: ON by HEAT 6 and 5", () -> oneAt(18, CARRIER, 0, 20, 0, 0), 19, y -> y.on(0, 2));
        changesNothing("15: ON by HEAT 5 and 6", () -> oneAt(5, CARRIER, 0, 20, 0, 0), 19, y -> y.on(0, 2));
        changesNothing("15: ON by HEAT 11, 12 and 11", () -> oneAt(11, CARRIER, 0, 20, 0, 0), 16, y -> y.on(0, 3));
        changesNothing("15: FOUND ON", () -> guarded(one(CARAVAN, 0, 50, 0, 0), 0, 9), 0, y -> y.on(0, 1));
        changesNothing("15: not FOUND ON 0 HOURS", () -> guarded(one(CARAVAN, 0, 50, 0, 0), 0, 9), 50, y -> y.on(0, 0));
        changesNothing("16: in 1 HOUR", () -> guarded(one(CARAVAN, 0, 50, 0, 0), 0, 9), 1, y -> y.found(0));
        refuses("16: NONE, no POST", () -> one(CARAVAN, 0, 99, 0, 0), NONE, y -> y.found(0));
        refuses("16: NONE, CLOUDS", () -> cloudy(guarded(one(CARAVAN, 0, 99, 0, 0), 0, 9)), NONE, y -> y.found(0));
        refuses("16: NONE, no SHADE", () -> guarded(one(CARAVAN, 0, 0, 0, 0), 0, 9), NONE, y -> y.found(0));
        refuses("16: NONE, no SHADE in an HOUR", () -> guarded(one(CARAVAN, 0, 1, 0, 0), 0, 9), NONE, y -> y.found(0));
        refuses("16: NONE, COVER enough", () -> guarded(one(BRIDE, 0, 99, 9, 0), 0, 4), NONE, y -> y.found(0));
        changesNothing("16: at noon, 12 HOURS off", () -> guarded(one(BRIDE, 0, 99, 8, 0), 0, 4), 12, y -> y.found(0));
        // One that a day doesn't find fades more than the next day's heats could make up for: 24 is the latest.
        changesNothing("16: at noon, a day off", () -> guarded(oneAt(12, BRIDE, 0, 99, 8, 0), 0, 4), 24, y -> y.found(0));
        refuses("17: NONE, no CARRIERS", BoundaryTest::none, NONE, y -> y.firstFound());
        refuses("17: NONE, no POSTS", BoundaryTest::full, NONE, y -> y.firstFound());
        refuses("17: NONE, CLOUDS", () -> cloudy(guarded(full(), 6, 9)), NONE, y -> y.firstFound());
        changesNothing("17: the last alone", () -> guarded(full(), 14, 9), 7, y -> y.firstFound());
        changesNothing("17: the first alone", () -> guarded(full(), 0, 9), 0, y -> y.firstFound());
        changesNothing("17: of several the least", () -> guarded(guarded(full(), 6, 9), 4, 9), 2, y -> y.firstFound());
        changesNothing("17: the one FOUND sooner, not the least",
            () -> guarded(guarded(full(), 4, 2), 14, 9), 7, y -> y.firstFound());
        changesNothing("17: a day off", () -> guarded(oneAt(12, BRIDE, 0, 99, 8, 0), 0, 4), 0, y -> y.firstFound());
    }

    private static ShadeCarpets guarded(ShadeCarpets x, int place, int post) {
        x.place(place, 0, post);
        return x;
    }

    private static ShadeCarpets cloudy(ShadeCarpets x) {
        x.clouds(1);
        return x;
    }

    // ---- Promises 18 to 25

    /**
     * A POST of 9 lets one with no COVER through only when it is COOL 0 and HEAT is below 3. This one
     * has 3 of SHADE left at hour 94, whose HEAT is 2, and 17 or more the night before: it can be
     * AT 1 in just so many HOURS, not before.
     */
    private static ShadeCarpets shutFor(int hours) {
        int shade = 3;
        for (int h = 94 - hours; h < 94; h++) {
            shade += (12 - Math.abs(h % 24 - 12)) / 6;
        }
        ShadeCarpets x = oneAt(94 - hours, CARRIER, 0, shade, 0, 0);
        x.place(1, 0, 9);
        return x;
    }

    /** The same, and nowhere but AT 1 it gets anything. */
    private static ShadeCarpets pricesShutFor(int hours) {
        ShadeCarpets x = shutFor(hours);
        prices(x, 0);
        x.place(1, 1, 99);
        return x;
    }

    /** The same, but AT 2 it can be only if it may wait NEXT to 2, where all have POSTS too. */
    private static ShadeCarpets ringShutFor(int hours) {
        ShadeCarpets x = shutFor(hours);
        x.place(2, 0, 9);
        x.place(3, 0, 9);
        x.place(6, 0, 9);
        return x;
    }

    private static void promises18To20() {
        changesNothing("18: in 0 HOURS, where it is", BoundaryTest::busy, 0, y -> y.soonest(0, 5));
        changesNothing("18: in 0 HOURS, where a POST is", () -> guarded(one(CARAVAN, 6, 99, 0, 0), 6, 9), 0,
            y -> y.soonest(0, 6));
        changesNothing("18: in 6 HOURS, from the first to the last", () -> one(CARRIER, 0, 99, 0, 0), 6, y -> y.soonest(0, 15));
        changesNothing("18: in 48 HOURS", () -> shutFor(48), 48, y -> y.soonest(0, 1));
        refuses("18: NONE, in 49 HOURS", () -> shutFor(49), NONE, y -> y.soonest(0, 1));
        refuses("18: NONE, all round", () -> guarded(guarded(one(CARAVAN, 0, 99, 0, 0), 1, 9), 4, 9), NONE,
            y -> y.soonest(0, 15));
        for (int n : new int[] {-1, 49, LOW, HIGH}) {
            refuses("19: reach(0, " + n + ")", BoundaryTest::busy, BEYOND, y -> y.reach(0, n));
            refuses("20: cover(0, 0, " + n + ")", BoundaryTest::busy, BEYOND, y -> y.cover(0, 0, n));
            refuses("21: best(0, " + n + ")", BoundaryTest::busy, BEYOND, y -> y.best(0, n));
            refuses("22: where(0, " + n + ")", BoundaryTest::busy, BEYOND, y -> y.where(0, n));
            refuses("24: kind(0, " + n + ")", BoundaryTest::busy, BEYOND, y -> y.kind(0, n));
        }
        changesNothing("19: behind 0 HOURS", () -> shutFor(48), 1, y -> y.reach(0, 0));
        changesNothing("19: behind 47 HOURS", () -> shutFor(48), 65535 - 2, y -> y.reach(0, 47));
        changesNothing("19: behind 48 HOURS", () -> shutFor(48), 65535, y -> y.reach(0, 48));
        changesNothing("19: behind just n, not sooner: it can't stay", () -> guarded(shutFor(48), 0, 9), 1 << 4,
            y -> y.reach(0, 1));
        changesNothing("19: an empty set", () -> guarded(guarded(shutFor(48), 0, 9), 4, 9), 0, y -> y.reach(0, 1));
        changesNothing("20: COVER 0 within 48 HOURS", () -> shutFor(48), 0, y -> y.cover(0, 1, 48));
        changesNothing("20: COVER 1 within 47 HOURS", () -> shutFor(48), 1, y -> y.cover(0, 1, 47));
        changesNothing("20: within 0 HOURS, where it is", () -> guarded(one(CARAVAN, 6, 99, 5, 0), 6, 9), 0,
            y -> y.cover(0, 6, 0));
        refuses("20: NONE, within 0 HOURS elsewhere", () -> one(CARRIER, 0, 4, 0, 0), NONE, y -> y.cover(0, 1, 0));
        refuses("20: NONE, within 5 HOURS, 6 off", () -> one(CARRIER, 0, 4, 0, 0), NONE, y -> y.cover(0, 15, 5));
        changesNothing("20: within 6 HOURS, 6 off", () -> one(CARRIER, 0, 4, 0, 0), 0, y -> y.cover(0, 15, 6));
        changesNothing("20: COVER 9: 9 and 9", () -> guarded(one(CARRIER, 0, 36, 0, 0), 1, 9), 9, y -> y.cover(0, 1, 1));
        refuses("20: NONE, COVER 10: 10 and 9", () -> guarded(one(CARRIER, 0, 40, 9, 0), 1, 9), NONE, y -> y.cover(0, 1, 1));
        changesNothing("20: COVER 1: 1 and 9, whatever it has", () -> guarded(one(CARRIER, 0, 4, 9, 0), 1, 9), 1,
            y -> y.cover(0, 1, 1));
    }

    private static void promises21To22() {
        changesNothing("21: behind 0 HOURS", () -> one(CARRIER, 0, 31, 0, 0), 310, y -> y.best(0, 0));
        changesNothing("22: behind 0 HOURS", () -> one(CARRIER, 9, 31, 0, 0), 9, y -> y.where(0, 0));
        changesNothing("21: behind 47 HOURS", () -> pricesShutFor(48), 0, y -> y.best(0, 47));
        changesNothing("22: behind 47 HOURS", () -> pricesShutFor(48), 0, y -> y.where(0, 47));
        changesNothing("21: behind 48 HOURS", () -> pricesShutFor(48), 297, y -> y.best(0, 48));
        changesNothing("22: behind 48 HOURS", () -> pricesShutFor(48), 4801, y -> y.where(0, 48));
        changesNothing("21: 49 HOURS off", () -> pricesShutFor(49), 0, y -> y.best(0, 48));
        changesNothing("21: with no SHADE: 0", () -> one(CARRIER, 7, 0, 0, 0), 0, y -> y.best(0, 48));
        changesNothing("21: with no SHADE: 0, though its DUSK has a VALUE", () -> one(DEALER, 7, 0, 0, 9), 0,
            y -> y.best(0, 48));
        changesNothing("22: with no SHADE, at once where it is", () -> one(DEALER, 7, 0, 0, 9), 7, y -> y.where(0, 48));
        changesNothing("21: a priest gets 0", () -> one(PRIEST, 7, 99, 0, 0), 0, y -> y.best(0, 48));
        changesNothing("22: a priest, at once where it is", () -> one(PRIEST, 7, 99, 0, 0), 7, y -> y.where(0, 48));
        Supplier<ShadeCarpets> fading = () -> {
            ShadeCarpets x = oneAt(6, DEALER, 0, 1, 0, 4);
            x.place(0, 1, 0);
            return x;
        };
        changesNothing("21: its last SHADE fades in an HOUR, its DUSK sells not alone", fading, 0, y -> y.best(0, 9));
        changesNothing("22: then at once where it is", fading, 0, y -> y.where(0, 9));
        Supplier<ShadeCarpets> lasting = () -> {
            ShadeCarpets x = oneAt(6, DEALER, 0, 2, 0, 4);
            x.place(0, 1, 0);
            return x;
        };
        changesNothing("21: one that lasts an HOUR sells with its DUSK", lasting, 50, y -> y.best(0, 9));
        changesNothing("22: one that lasts an HOUR", lasting, 101, y -> y.where(0, 9));
        Supplier<ShadeCarpets> alike = () -> {
            ShadeCarpets x = one(CARRIER, 5, 31, 0, 0);
            x.place(0, 1, 50);
            x.place(9, 1, 50);
            x.place(6, 1, 50);
            return x;
        };
        changesNothing("22: the fewest HOURS before the least PLACE, then the least", alike, 106, y -> y.where(0, 48));
        changesNothing("22: the greatest VALUE before the fewest HOURS", () -> {
            ShadeCarpets x = alike.get();
            x.place(15, 1, 51);
            return x;
        }, 415, y -> y.where(0, 48));
        Supplier<ShadeCarpets> watched = () -> {
            ShadeCarpets x = guarded(one(CARRIER, 0, 99, 0, 0), 1, 9);
            x.place(1, 1, 99);
            return x;
        };
        changesNothing("21: where it would be FOUND it doesn't sell", watched, 990, y -> y.best(0, 48));
        changesNothing("21: where it is it sells at once, FOUND or not", () -> guarded(watched.get(), 0, 9), 990,
            y -> y.best(0, 48));
        changesNothing("21: a bride's 30 have faded to 29 on the way", () -> {
            ShadeCarpets x = oneAt(12, BRIDE, 0, 30, 0, 0);
            x.place(1, 1, 11);
            return x;
        }, 350, y -> y.best(0, 1));
    }

    private static void promises23To25() {
        refuses("23: NONE, no POSTS", () -> one(CARRIER, 0, 99, 0, 0), NONE, y -> y.post(0, 15));
        refuses("23: NONE, it is there", () -> guarded(one(CARRIER, 0, 99, 0, 0), 0, 9), NONE, y -> y.post(0, 0));
        refuses("23: NONE, not sooner than as it is", () -> guarded(one(CARRIER, 0, 99, 0, 0), 1, 9), NONE, y -> y.post(0, 15));
        refuses("23: NONE, two shut it in", () -> guarded(guarded(guarded(one(CARRIER, 0, 99, 0, 0), 1, 9), 4, 9), 5, 9),
            NONE, y -> y.post(0, 5));
        refuses("23: NONE, CLOUDS", () -> cloudy(guarded(one(CARRIER, 0, 99, 0, 0), 1, 9)), NONE, y -> y.post(0, 1));
        changesNothing("23: the PLACE itself", () -> guarded(one(CARRIER, 0, 99, 0, 0), 1, 9), 1, y -> y.post(0, 1));
        changesNothing("23: the first PLACE", () -> guarded(one(CARRIER, 1, 99, 0, 0), 0, 9), 0, y -> y.post(0, 0));
        changesNothing("23: the least POST", () -> guarded(one(CARRIER, 1, 99, 0, 0), 0, 1), 0, y -> y.post(0, 0));
        ShadeCarpets back = guarded(one(CARRIER, 0, 99, 0, 0), 15, 9);
        due("23: taken away in thought", back.post(0, 15), 15);
        due("23: it stands there still", back.soonest(0, 15), NONE);
        due("23: it stands there still", back.reach(0, 48), 32767);
        changesNothing("23: the last PLACE", () -> guarded(one(CARRIER, 14, 99, 0, 0), 15, 9), 15, y -> y.post(0, 15));
        changesNothing("23: of several the least", () -> guarded(guarded(one(CARRIER, 0, 99, 0, 0), 1, 9), 4, 9), 1,
            y -> y.post(0, 15));
        changesNothing("23: soonest, not the least", () -> guarded(guarded(one(CARRIER, 0, 99, 0, 0), 1, 9), 4, 9), 4,
            y -> y.post(0, 8));
        changesNothing("23: sooner, where as it is takes 48 HOURS", () -> shutFor(48), 1, y -> y.post(0, 1));
        changesNothing("23: within 48 HOURS", () -> ringShutFor(48), 1, y -> y.post(0, 2));
        refuses("23: NONE, within 49 HOURS", () -> ringShutFor(49), NONE, y -> y.post(0, 2));
        changesNothing("24: of several the least, with no SHADE", () -> one(PRIEST, 0, 0, 0, 0), 0, y -> y.kind(0, 48));
        changesNothing("24: of several the least, behind 0 HOURS", () -> one(BRIDE, 0, 29, 0, 0), 0, y -> y.kind(0, 0));
        changesNothing("24: as bride from 30 on", () -> one(PRIEST, 0, 30, 0, 0), BRIDE, y -> y.kind(0, 0));
        changesNothing("24: as dealer with as much by DUSK, the least", () -> one(PRIEST, 0, 30, 0, 5), DEALER, y -> y.kind(0, 0));
        changesNothing("24: behind 47 HOURS as bride, for her 50 at PRICE 0", () -> dusky(48), BRIDE, y -> y.kind(0, 47));
        changesNothing("24: behind 48 HOURS as dealer", () -> dusky(48), DEALER, y -> y.kind(0, 48));
        changesNothing("24: 3 are COOL 0 as carrier", () -> shutWith(3), CARRIER, y -> y.kind(0, 1));
        changesNothing("24: 4 and 7 as granny, too, before bride", () -> shutWith(4), GRANNY, y -> y.kind(0, 1));
        changesNothing("24: 4 and 7 as granny, too, before bride", () -> shutWith(7), GRANNY, y -> y.kind(0, 1));
        changesNothing("24: 8 and 23 as bride alone", () -> shutWith(8), BRIDE, y -> y.kind(0, 1));
        changesNothing("24: 8 and 23 as bride alone", () -> shutWith(23), BRIDE, y -> y.kind(0, 1));
        changesNothing("24: 24 as none", () -> shutWith(24), CARRIER, y -> y.kind(0, 1));
        departs();
    }

    private static ShadeCarpets dusky(int hours) {
        ShadeCarpets x = pricesShutFor(hours);
        x.set(0, 4, 1);
        return x;
    }

    /** At hour 0, when COOL alone counts. */
    private static ShadeCarpets shutWith(int shade) {
        ShadeCarpets x = guarded(one(PRIEST, 0, shade, 0, 0), 1, 9);
        prices(x, 0);
        x.place(1, 1, 1);
        return x;
    }

    private static void departs() {
        changesNothing("25: 0, it is there", () -> one(CARRIER, 0, 99, 0, 0), 0, y -> y.depart(0, 0));
        changesNothing("25: of several the fewest", () -> one(CARRIER, 0, 99, 0, 0), 0, y -> y.depart(0, 15));
        changesNothing("25: 22 HOURS, then 1 more", () -> shutFor(23), 22, y -> y.depart(0, 1));
        changesNothing("25: 23 HOURS, then 1 more", () -> shutFor(24), 23, y -> y.depart(0, 1));
        changesNothing("25: 23 HOURS at most, then 2 more", () -> shutFor(25), 23, y -> y.depart(0, 1));
        changesNothing("25: 23 HOURS at most, then 25 more", () -> shutFor(48), 23, y -> y.depart(0, 1));
        changesNothing("25: 23 HOURS at most, then 48 more", () -> shutFor(71), 23, y -> y.depart(0, 1));
        refuses("25: NONE, then 49 more", () -> shutFor(72), NONE, y -> y.depart(0, 1));
        changesNothing("25: 48 HOURS more, it can't stay", () -> guarded(shutFor(48), 0, 9), 0, y -> y.depart(0, 1));
        refuses("25: NONE, 49 HOURS more, it can't stay", () -> guarded(shutFor(49), 0, 9), NONE, y -> y.depart(0, 1));
        refuses("25: NONE, it can't stay nor go",
            () -> guarded(guarded(guarded(one(CARRIER, 0, 99, 0, 0), 0, 9), 1, 9), 4, 9), NONE, y -> y.depart(0, 15));
        Supplier<ShadeCarpets> watched = () -> guarded(shutFor(24), 0, 4);
        changesNothing("25: FOUND in the 8th HOUR if it stays, 4 and 2 and 4, so it stays 7", watched, 7, y -> y.depart(0, 1));
        changesNothing("25: it can't stay, but it is there", () -> guarded(one(CARRIER, 0, 99, 0, 0), 0, 9), 0,
            y -> y.depart(0, 0));
    }

    // ---- Promises 26 to 28

    private static void promises26To27() {
        for (int n : new int[] {0, -1, 5, LOW, HIGH}) {
            refuses("26: feed(.., " + n + ")", BoundaryTest::busy, BEYOND, y -> y.feed(0x3b73756e, n));
            refuses("26: feed(.., " + n + "), BEYOND before FULL", BoundaryTest::full, BEYOND, y -> y.feed(0x3b73756e, n));
        }
        for (int n = 1; n <= 4; n++) {
            int bytes = n;
            refuses("26: FULL, 120 and " + n, BoundaryTest::full, FULL, y -> y.feed(0x20202020, bytes));
            refuses("26: FULL, one too many of " + n, () -> tapeOf(121 - bytes), FULL, y -> y.feed(0x20202020, bytes));
            due("26: just 120 by " + n, tapeOf(120 - n).feed(0x20202020, n), 120);
            due("26: how many an empty one has by " + n, none().feed(0x20202020, n), n);
        }
        int sun = 0x73756e;
        ShadeCarpets x = none();
        x.feed(0xFF000000 | sun, 3);
        due("26: the lowest bytes alone, the highest first", x.land(), 1);
        x.feed(0x7375, 2);
        x.feed(LOW | 0x6e, 1);
        due("26: behind what it has", x.land(), 1);
        x.feed(0x20 << 24 | sun, 4);
        due("26: 4 bytes", x.land(), 1);
        x.feed(sun, 4);
        due("26: 4 bytes, the highest a 0", x.land(), -1);
        x.feed(sun << 8 | 0xFF, 4);
        due("26: a byte above 127", x.land(), -4);
        due("26: a number below 0", x.feed(-1, 4), 4);
        due("27: had 4", x.wipe(), 4);
        due("27: had none", x.wipe(), 0);
        ShadeCarpets y = full();
        due("27: had 120", y.wipe(), 120);
        due("27: is empty", y.count(1), 0);
        due("27: tells nothing", y.land(), -1);
        feed(y, "post 4 5;".repeat(13) + "sun");
        due("27: has room for 120", y.count(1), 120);
        due("27: tells all of them", y.land(), 14);
    }

    private static ShadeCarpets tapeOf(int n) {
        ShadeCarpets x = new ShadeCarpets();
        x.carrier(0, 0);
        feed(x, "clouds" + " ".repeat(n - 6));
        return x;
    }

    private static void promise28() {
        emptyTexts();
        items();
        for (int k = 0; k < 6; k++) {
            kindItem(NAMES[k], k);
        }
        placeItem("post", 0, 9);
        placeItem("price", 1, 99);
        tokens();
        fault("28: a word alone is no item", "sand", 0);
        fault("28: at begins no item", "at 5", 0);
        fault("28: shade begins no item", "shade 5", 0);
        fault("28: a number begins no item", "5", 0);
        fault("28: a sign begins no item", ";", 0);
        fault("28: two signs", "sun;;sun", 4);
        fault("28: two items without a sign", "sun clouds", 4);
        fault("28: a number behind an item", "sun 5", 4);
        fault("28: the first of two faults", "sun post;sand", 4);
        fault("28: ends behind a sign", "sun;", 4);
        fault("28: ends behind a sign and blanks", "sun;  ", 6);
        ninth();
        fullTape();
    }

    /** It is told where, nothing comes, the tape is empty, and it is no finding. */
    private static void fault(String sentence, String text, int place) {
        ShadeCarpets x = busy();
        x.wipe();
        feed(x, text);
        List<Long> counts = counts(x);
        due(sentence + " '" + text + "'", x.land(), -1 - place);
        due(sentence + " '" + text + "', the tape is empty", x.count(1), 0);
        dueAll(sentence + " '" + text + "', no finding", counts(x), counts);
        ShadeCarpets y = busy();
        y.wipe();
        dueAll(sentence + " '" + text + "', nothing else changes", all(x), all(y));
    }

    private static void emptyTexts() {
        fault("28: empty", "", 0);
        fault("28: blanks alone", " ", 1);
        fault("28: blanks alone", "    ", 4);
    }

    private static void items() {
        ShadeCarpets x = none();
        due("28: one item", land(x, "clouds"), 1);
        due("28: clouds: so it is", x.now(2), 1);
        due("28: sun: so it is", land(x, "sun"), 1);
        due("28: sun: so it was", x.clouds(1), 0);
        due("28: as it was already", land(x, "clouds;clouds"), 2);
        due("28: as it was already", x.now(2), 1);
        due("28: the last of them holds", land(x, "sun;clouds;sun"), 3);
        due("28: the last of them holds", x.now(2), 0);
        due("28: the last of them holds", land(x, "post 3 4;post 3 0;price 3 4;price 3 5"), 4);
        due("28: the last of them holds", x.placeOf(3, 0) * 100 + x.placeOf(3, 1), 5);
        due("28: no hour goes", x.now(0), 0);
        due("28: the tape is empty", x.count(1), 0);
        due("28: no finding", x.status(-1), 0);
    }

    private static void kindItem(String name, int kind) {
        String at = name + " at ";
        int n = name.length();
        tells(at + "0", kind, 0, 20, 0, 0);
        tells(at + "15", kind, 15, 20, 0, 0);
        tells(at + "15 shade 0", kind, 15, 0, 0, 0);
        tells(at + "15 shade 99", kind, 15, 99, 0, 0);
        tells(at + "15 cover 0", kind, 15, 20, 0, 0);
        tells(at + "15 cover 9", kind, 15, 20, 9, 0);
        tells(at + "15 dusk 0", kind, 15, 20, 0, 0);
        tells(at + "15 dusk 9", kind, 15, 20, 0, 9);
        tells(at + "7 shade 8 cover 3", kind, 7, 8, 3, 0);
        tells(at + "7 shade 8 dusk 3", kind, 7, 8, 0, 3);
        tells(at + "7 cover 8 dusk 3", kind, 7, 20, 8, 3);
        tells(at + "7 shade 6 cover 8 dusk 3", kind, 7, 6, 8, 3);
        fault("28: too large a PLACE", at + "16", n + 4);
        fault("28: too large a PLACE", at + "999", n + 4);
        fault("28: too large a NUMBER", at + "1000", n + 4);
        fault("28: too large a SHADE", at + "15 shade 100", n + 13);
        fault("28: too large a COVER", at + "15 cover 10", n + 13);
        fault("28: too large a DUSK", at + "15 dusk 10", n + 12);
        fault("28: no at", name + " 5", n + 1);
        fault("28: another word for at", name + " in 5", n + 1);
        fault("28: a word for a PLACE", at + "shade", n + 4);
        fault("28: a word for a NUMBER", at + "5 shade cover 5", n + 12);
        fault("28: another word behind it", at + "5 cash 5", n + 6);
        fault("28: a NUMBER behind it", at + "5 5", n + 6);
        fault("28: a KIND's name behind it", at + "5 " + name, n + 6);
        fault("28: shade twice", at + "5 shade 1 shade 1", n + 14);
        fault("28: shade behind cover", at + "5 cover 1 shade 1", n + 14);
        fault("28: shade behind dusk", at + "5 dusk 1 shade 1", n + 13);
        fault("28: cover twice", at + "5 cover 1 cover 1", n + 14);
        fault("28: cover behind dusk", at + "5 dusk 1 cover 1", n + 13);
        fault("28: dusk twice", at + "5 dusk 1 dusk 1", n + 13);
        fault("28: ends too early", name, n);
        fault("28: ends too early", name + " at", n + 3);
        fault("28: ends too early", at + "5 shade", n + 11);
        fault("28: ends too early", at + "5 cover ", n + 12);
        fault("28: ends too early", at + "5 dusk", n + 10);
        fault("28: a sign too early", name + ";sun", n);
        fault("28: a sign too early", name + " at;sun", n + 3);
        fault("28: a sign too early", at + "5 shade;sun", n + 11);
        fault("28: a sign too early", at + "5 cover;sun", n + 11);
        fault("28: a sign too early", at + "5 dusk;sun", n + 10);
        fault("28: a longer word", name + "s at 5", 0);
        fault("28: a shorter word", name.substring(0, n - 1) + " at 5", 0);
        fault("28: a word with at in it", name + "at 5", 0);
    }

    private static void tells(String text, int... all) {
        ShadeCarpets x = none();
        x.carrier(0, 9);
        due("28: '" + text + "'", land(x, text), 1);
        due("28: one more by '" + text + "'", x.count(0), 2);
        for (int what = 0; what < 5; what++) {
            due("28: what " + what + " by '" + text + "'", x.of(1, what), all[what]);
        }
        due("28: CASH by '" + text + "'", x.of(1, 5), 0);
    }

    private static void placeItem(String word, int what, int most) {
        int n = word.length();
        for (int p = 0; p < 16; p += 15) {
            for (int v = 0; v <= most; v += most) {
                ShadeCarpets x = none();
                x.place(p, what, 3);
                due("28: " + word + " of " + p, land(x, word + " " + p + " " + v), 1);
                due("28: " + word + " of " + p + " is", x.placeOf(p, what), v);
                due("28: of none else", x.count(2) * 1000 + x.count(3), what == 0 ? (v > 0 ? 1160 : 160) : 150 + v);
            }
        }
        fault("28: too large a PLACE", word + " 16 0", n + 1);
        fault("28: too large a PLACE", word + " 1000 0", n + 1);
        fault("28: too large", word + " 15 " + (most + 1), n + 4);
        fault("28: too large", word + " 15 1000", n + 4);
        fault("28: too large, as a wrapped number would not be", word + " 15 4294967297", n + 4);
        fault("28: too large, as a wrapped number would not be", word + " 4294967297 0", n + 1);
        fault("28: below 0", word + " 15 -1", n + 4);
        fault("28: ends too early", word, n);
        fault("28: ends too early", word + " 15", n + 3);
        fault("28: a sign too early", word + ";sun", n);
        fault("28: a sign too early", word + " 15;sun", n + 3);
        fault("28: a word for a PLACE", word + " at 15 0", n + 1);
        fault("28: a word for a NUMBER", word + " 15 sun", n + 4);
        fault("28: a third NUMBER", word + " 1 2 3", n + 5);
        fault("28: one NUMBER, as long as can be", word + " 12", n + 3);
        fault("28: a longer word", word + "s 1 2", 0);
        fault("28: a shorter word", word.substring(0, n - 1) + " 1 2", 0);
    }

    private static void tokens() {
        ShadeCarpets x = none();
        due("28: no blanks where tokens part by themselves", land(x, "granny at5shade6cover7dusk8;post1 2;sun"), 3);
        due("28: no blanks, shade, cover and dusk", x.of(0, 2) * 100 + x.of(0, 3) * 10 + x.of(0, 4), 678);
        due("28: many blanks", land(x, "post   1    2   ;   clouds"), 2);
        due("28: blanks first and last", land(x, "  sun  "), 1);
        due("28: zeros ahead, its value counts", land(x, "post 0015 0000009"), 1);
        due("28: zeros ahead", x.placeOf(15, 0), 9);
        fault("28: words as long as can be", "sunclouds", 0);
        fault("28: words as long as can be", "suns", 0);
        fault("28: a is a letter", "suna", 0);
        fault("28: z is a letter", "sunz", 0);
        fault("28: another first letter", "nun", 0);
        fault("28: another last letter", "sum", 0);
        fault("28: a part of a word", "su", 0);
        fault("28: a great letter begins no token", "Sun", 0);
        fault("28: a great letter ends a word", "suN", 0);
        fault("28: a great letter ends a word that may stand", "sunN", 3);
        fault("28: a byte ahead of a", "sun`", 3);
        fault("28: a byte behind z", "sun{", 3);
        fault("28: a byte ahead of 0", "post 1/", 6);
        fault("28: a byte behind 9 that is no sign", "post 1 :", 7);
        fault("28: a byte ahead of the sign", "sun:sun", 3);
        fault("28: a byte behind the sign", "sun<sun", 3);
        fault("28: a tab is no blank", "sun\t;sun", 3);
        fault("28: a new line is no blank", "sun\n", 3);
        fault("28: a 0 is no blank", "\0sun", 0);
        fault("28: a byte 31", "sun\u001f", 3);
        fault("28: a byte 33", "sun!", 3);
        fault("28: a byte 127", "sun\u007f", 3);
        fault("28: a byte 128", "sun\u0080", 3);
        fault("28: a byte 160 is no blank", "sun\u00a0", 3);
        fault("28: a byte 225 is no a with its highest bit off", "\u00f3un", 0);
        fault("28: a byte 255", "\u00ff", 0);
    }

    private static void ninth() {
        ShadeCarpets x = none();
        due("28: 8 in a text", land(x, "bride at 0;".repeat(7) + "priest at 15"), 8);
        due("28: are 8", x.count(0), 8);
        due("28: no 9th alone", land(x, "granny at 1"), -1);
        due("28: other items come still", land(x, "clouds;post 1 1;price 1 1"), 3);
        due("28: the 9th's own place, ahead of a later fault", land(x, "sun; granny 99"), -6);
        due("28: nothing came with it", x.now(2), 1);
        due("28: no finding", x.status(-1), 0);
        ShadeCarpets y = none();
        due("28: 9 in a text", land(y, "bride at 0;".repeat(8) + "priest at 15"), -1 - 88);
        due("28: none of 9 came", y.count(0), 0);
        y.carrier(0, 0);
        due("28: 8 behind one", land(y, "bride at 0;".repeat(7) + "priest at 15"), -1 - 77);
        due("28: one still", y.count(0), 1);
        due("28: 7 behind one", land(y, "bride at 0;".repeat(6) + "priest at 15"), 7);
        due("28: 8 then", y.count(0), 8);
        due("28: a word that is no KIND's, for a 9th", land(y, "sun;grannies at 5"), -5);
    }

    private static void fullTape() {
        String suns = "sun;".repeat(28);
        String[] ends = {"sun;sun;", " sun;sun", "post 1 2", "clouds  ", "post 1  ", "price 15", "sun;sun!", "carriers"};
        int[] answers = {-121, 30, 29, 29, -121, -121, -120, -113};
        for (int i = 0; i < ends.length; i++) {
            ShadeCarpets x = none();
            due("28: 120 bytes, ending in '" + ends[i] + "'", land(x, suns + ends[i]), answers[i]);
        }
        due("28: 120 blanks", land(none(), " ".repeat(120)), -121);
        due("28: one number of 115 digits", land(none(), "post " + "0".repeat(115)), -121);
        due("28: one number of 115 digits", land(none(), "post " + "9".repeat(115)), -6);
        due("28: one word", land(none(), "s".repeat(120)), -1);
        ShadeCarpets x = none();
        land(x, "post 1 15");
        due("28: nothing of what a longer tape had: digits", land(x, "post 1 1"), 1);
        land(x, "sunny");
        due("28: nothing of what a longer tape had: letters", land(x, "sun"), 1);
        land(x, "sun;sun");
        due("28: nothing of what a longer tape had: an item", land(x, "sun;"), -5);
    }

    // ---- Promises 29 to 34

    private static void promises29To31() {
        Supplier<ShadeCarpets> busy = BoundaryTest::busy;
        for (int s : new int[] {-1, 4, LOW, HIGH}) {
            refuses("29: sheet(" + s + ", ..)", busy, BEYOND, y -> y.sheet(s, 8, 1));
            refuses("29: no such sheet, before SIZE", busy, BEYOND, y -> y.sheet(s, 8, -1));
            refuses("30: write(" + s + ", ..)", busy, BEYOND, y -> y.write(s, 0, 1));
            refuses("31: copy(" + s + ", ..)", busy, BEYOND, y -> y.copy(s, 0, 0, 0, 1));
            refuses("31: copy(.., " + s + ", ..)", busy, BEYOND, y -> y.copy(0, 0, s, 0, 1));
            refuses("31: no such sheet, before MISSING", busy, BEYOND, y -> y.copy(s, 0, 3, 0, 1));
            refuses("31: no such sheet, before MISSING", busy, BEYOND, y -> y.copy(3, 0, s, 0, 1));
            refuses("32: lays(" + s + ")", busy, BEYOND, y -> y.lays(s));
            refuses("33: book(" + s + ", ..)", busy, BEYOND, y -> y.book(s, 0));
            refuses("34: read(" + s + ", ..)", busy, BEYOND, y -> y.read(s, 0));
        }
        for (int bits : new int[] {-8, -1, 1, 7, 9, 15, 17, 32, 63, 65, 128, LOW, HIGH}) {
            refuses("29: other bits " + bits, busy, BEYOND, y -> y.sheet(0, bits, 1));
            refuses("29: other bits " + bits + ", before SIZE", busy, BEYOND, y -> y.sheet(0, bits, -1));
        }
        for (int bits : new int[] {0, 8, 16, 64}) {
            for (int n : new int[] {-1, LOW}) {
                refuses("29: SIZE, " + n + " of " + bits + " bits", busy, SIZE, y -> y.sheet(0, bits, n));
            }
            for (int n : new int[] {41, HIGH}) {
                refuses("29: BEYOND, " + n + " of " + bits + " bits", busy, BEYOND, y -> y.sheet(0, bits, n));
            }
            laysOut(bits);
        }
        writes();
        copies();
    }

    private static void laysOut(int bits) {
        for (int s = 0; s < 4; s += 3) {
            ShadeCarpets x = busy();
            due("29: 40 of " + bits + " bits", x.sheet(s, bits, 40), bits == 0 ? 0 : 40);
            due("29: number 39 of them", x.write(s, 39, 1), bits == 0 ? MISSING : 0);
            due("29: no number 40", x.write(s, 40, 1), bits == 0 ? MISSING : BEYOND);
            due("29: 40 again of " + bits + " bits", x.sheet(s, bits, 40), bits == 0 ? 0 : 40);
            due("29: all 0 again", x.write(s, 39, 1), bits == 0 ? MISSING : 0);
            due("29: none of " + bits + " bits", x.sheet(s, bits, 0), 0);
            due("29: none is not MISSING, but with bits 0", x.write(s, 0, 1), bits == 0 ? MISSING : BEYOND);
            due("29: 40 behind none", x.sheet(s, 8, 40), 40);
            due("29: none of what was", x.write(s, 39, 1), 0);
            due("29: the others stay", x.write(1, 2, 0), 77);
        }
    }

    private static void writes() {
        Supplier<ShadeCarpets> busy = BoundaryTest::busy;
        refuses("30: MISSING", busy, MISSING, y -> y.write(3, 0, 1));
        refuses("30: MISSING before no such number", busy, MISSING, y -> y.write(3, -1, 1));
        for (int i : new int[] {-1, 5, LOW, HIGH}) {
            refuses("30: no such number " + i, busy, BEYOND, y -> y.write(0, i, 1));
        }
        refuses("30: no number 0 of none", () -> {
            ShadeCarpets x = busy();
            x.sheet(3, 8, 0);
            return x;
        }, BEYOND, y -> y.write(3, 0, 1));
        long[][] in8 = {{127, 127}, {128, -128}, {255, -1}, {256, 0}, {257, 1}, {-1, -1}, {-128, -128}, {-129, 127},
            {-256, 0}, {Long.MAX_VALUE, -1}, {Long.MIN_VALUE, 0}, {1L << 32, 0}};
        long[][] in16 = {{32767, 32767}, {32768, -32768}, {65535, -1}, {65536, 0}, {65537, 1}, {-1, -1},
            {-32768, -32768}, {-32769, 32767}, {255, 255}, {Long.MAX_VALUE, -1}, {Long.MIN_VALUE, 0}};
        long[][] in64 = {{127, 127}, {65536, 65536}, {1L << 32, 1L << 32}, {Long.MAX_VALUE, Long.MAX_VALUE},
            {Long.MIN_VALUE, Long.MIN_VALUE}, {-1, -1}};
        long[][][] all = {in8, in16, in64};
        for (int s = 0; s < 3; s++) {
            for (long[] edge : all[s]) {
                ShadeCarpets x = busy();
                due("30: what it was", x.write(s, 2, edge[0]), 77);
                due("30: the lowest bits of " + edge[0] + " on sheet " + s, x.write(s, 2, 0), edge[1]);
                due("30: the others stay", x.write(s, 0, 0), -2);
            }
        }
    }

    private static void copies() {
        Supplier<ShadeCarpets> busy = BoundaryTest::busy;
        refuses("31: MISSING, from", busy, MISSING, y -> y.copy(3, 0, 0, 0, 1));
        refuses("31: MISSING, to", busy, MISSING, y -> y.copy(0, 0, 3, 0, 1));
        refuses("31: MISSING, both", busy, MISSING, y -> y.copy(3, 0, 3, 0, 0));
        refuses("31: MISSING before below 0", busy, MISSING, y -> y.copy(0, -1, 3, -1, -1));
        refuses("31: KIND, 8 and 16", busy, KIND, y -> y.copy(0, 0, 1, 0, 1));
        refuses("31: KIND, 64 and 16", busy, KIND, y -> y.copy(2, 0, 1, 0, 1));
        refuses("31: KIND, of none", busy, KIND, y -> y.copy(0, 0, 2, 0, 0));
        refuses("31: KIND before below 0", busy, KIND, y -> y.copy(0, -1, 1, -1, -1));
        refuses("31: KIND before not so many", busy, KIND, y -> y.copy(0, 9, 1, 9, 9));
        int[][] bad = {{-1, 0, 1}, {0, -1, 1}, {0, 0, -1}, {-1, 0, 0}, {0, -1, 0}, {0, 0, 4}, {0, 0, 6}, {3, 0, 3}, {0, 1, 3},
            {5, 0, 1}, {0, 3, 1}, {6, 0, 0}, {0, 4, 0}, {LOW, 0, 1}, {0, LOW, 1}, {0, 0, LOW}, {HIGH, 0, 1}, {0, HIGH, 1},
            {0, 0, HIGH}, {1, 0, HIGH}, {0, 1, HIGH}, {HIGH, HIGH, HIGH}, {6, 0, -1}, {0, 4, -1}, {LOW, LOW, LOW}};
        for (int[] b : bad) {
            refuses("31: copy from " + b[0] + " of 5 to " + b[1] + " of 3, " + b[2], BoundaryTest::twoSheets, BEYOND,
                y -> y.copy(0, b[0], 3, b[1], b[2]));
        }
        refuses("31: one has not so many, from", BoundaryTest::twoSheets, BEYOND, y -> y.copy(3, 1, 0, 0, 3));
        refuses("31: on itself, one has not so many", BoundaryTest::twoSheets, BEYOND, y -> y.copy(0, 0, 0, 1, 5));
        changesNothing("31: none", BoundaryTest::twoSheets, 0, y -> y.copy(0, 0, 3, 0, 0));
        changesNothing("31: none at both ends", BoundaryTest::twoSheets, 0, y -> y.copy(0, 5, 3, 3, 0));
        changesNothing("31: all on itself", BoundaryTest::twoSheets, 5, y -> y.copy(0, 0, 0, 0, 5));
        copied("31: all of another", 3, new long[] {11, 12, 13, 4, 5}, 3, 0, 0, 0, 3);
        copied("31: as they all were, forth", 4, new long[] {1, 1, 2, 3, 4}, 0, 0, 0, 1, 4);
        copied("31: as they all were, back", 4, new long[] {2, 3, 4, 5, 5}, 0, 1, 0, 0, 4);
        copied("31: the last alone", 1, new long[] {5, 2, 3, 4, 5}, 0, 4, 0, 0, 1);
        copied("31: from another", 3, new long[] {1, 2, 11, 12, 13}, 3, 0, 0, 2, 3);
    }

    /** Sheets 0 (5 numbers) and 3 (3 numbers), of as many bits. */
    private static ShadeCarpets twoSheets() {
        ShadeCarpets x = busy();
        x.sheet(0, 16, 5);
        x.sheet(3, 16, 3);
        for (int i = 0; i < 5; i++) {
            x.write(0, i, i + 1);
            x.write(3, i, i + 11);
        }
        return x;
    }

    private static void copied(String sentence, int n, long[] then, int... call) {
        ShadeCarpets x = twoSheets();
        due(sentence, x.copy(call[0], call[1], call[2], call[3], call[4]), n);
        for (int i = 0; i < 5; i++) {
            due(sentence + ", number " + i, x.write(0, i, 0), then[i]);
        }
    }

    private static void promises32To34() {
        Supplier<ShadeCarpets> busy = BoundaryTest::busy;
        refuses("32: MISSING", busy, MISSING, y -> y.lays(3));
        refuses("33: MISSING", busy, MISSING, y -> y.book(3, 0));
        refuses("34: MISSING", busy, MISSING, y -> y.read(3, 0));
        laysPrices();
        books();
        reads();
    }

    private static void laysPrices() {
        ShadeCarpets x = none();
        x.sheet(0, 64, 40);
        long[] numbers = {0, 99, 100, -1, Long.MAX_VALUE, Long.MIN_VALUE, (1L << 32) + 5, 1};
        for (int i = 0; i < 40; i++) {
            x.write(0, i, i < numbers.length ? numbers[i] : i);
        }
        due("32: those that aren't 0 to 99, or stand for none, are left out", x.lays(0), 11);
        int[] prices = {0, 99, 10, 10, 10, 10, 10, 1, 8, 9, 10, 11, 12, 13, 14, 15};
        for (int p = 0; p < 16; p++) {
            due("32: PRICE of " + p, x.placeOf(p, 1), prices[p]);
        }
        for (int n : new int[] {0, 1, 15, 16, 17, 40}) {
            ShadeCarpets y = none();
            y.sheet(1, 8, n);
            due("32: as many as stand for one, of " + n, y.lays(1), Math.min(16, n));
            due("32: PRICES of all", y.count(3), 160 - 10 * Math.min(16, n));
        }
        ShadeCarpets z = none();
        z.sheet(2, 8, 2);
        z.write(2, 0, 256 + 44);
        z.write(2, 1, 200);
        due("32: the lowest bits", z.lays(2), 1);
        due("32: the lowest bits", z.placeOf(0, 1) * 100 + z.placeOf(1, 1), 4410);
        due("32: the sheet stays", z.write(2, 0, 0), 44);
    }

    private static void books() {
        for (int n : new int[] {0, 1, 40}) {
            ShadeCarpets x = oneAt(12, CARAVAN, 5, 99, 0, 0);
            x.sheet(3, 8, n);
            due("33: as many as it has", x.book(3, 0), n);
            int shade = 99;
            for (int i = 0; i < n; i++) {
                due("33: ON " + i + " HOURS", x.write(3, i, 0), shade);
                shade = Math.max(0, shade - 1 - x.heat(12 + i) / 6);
            }
            due("33: SHADE stays", x.of(0, 2), 99);
            due("33: HOUR stays", x.now(0), 12);
        }
        ShadeCarpets y = guarded(one(CARAVAN, 5, 9, 0, 0), 5, 9);
        y.sheet(0, 16, 3);
        y.book(0, 0);
        due("33: ON 0 HOURS it isn't FOUND", y.write(0, 0, 1), 9);
        due("33: FOUND then", y.write(0, 1, 1), 0);
        due("33: none is left", y.write(0, 2, 1), 0);
        y.set(0, 2, 0);
        y.book(0, 0);
        due("33: with no SHADE", y.write(0, 0, 1), 0);
    }

    private static ShadeCarpets way(ShadeCarpets x, int bits, long... places) {
        x.sheet(0, bits, places.length);
        for (int i = 0; i < places.length; i++) {
            x.write(0, i, places[i]);
        }
        return x;
    }

    private static void reads() {
        reads("no numbers", 0, () -> way(one(CARRIER, 5, 99, 0, 0), 8));
        reads("it stays", 0, () -> way(one(CARRIER, 5, 99, 0, 0), 8, 5));
        reads("to the first PLACE", 0, () -> way(one(CARRIER, 1, 99, 0, 0), 16, 0));
        reads("to the last PLACE", 0, () -> way(one(CARRIER, 14, 99, 0, 0), 64, 15));
        reads("below the first PLACE", 1, () -> way(one(CARRIER, 0, 99, 0, 0), 64, -1));
        reads("above the last PLACE", 2, () -> way(one(CARRIER, 15, 99, 0, 0), 64, 15, 16));
        reads("far below", 1, () -> way(one(CARRIER, 0, 99, 0, 0), 64, Long.MIN_VALUE));
        reads("far above", 1, () -> way(one(CARRIER, 0, 99, 0, 0), 64, Long.MAX_VALUE));
        reads("a PLACE if its highest bits were off", 1, () -> way(one(CARRIER, 0, 99, 0, 0), 64, 1L << 32));
        reads("the lowest bits", 0, () -> way(one(CARRIER, 5, 99, 0, 0), 8, 256 + 6));
        reads("3 and 4 are not NEXT", 2, () -> way(one(CARRIER, 2, 99, 0, 0), 8, 3, 4));
        reads("askew", 1, () -> way(one(CARRIER, 5, 99, 0, 0), 8, 10));
        reads("two off", 1, () -> way(one(CARRIER, 5, 99, 0, 0), 8, 7, 6));
        reads("not from where it is at first", 2, () -> way(one(CARRIER, 5, 99, 0, 0), 8, 6, 4));
        reads("FOUND at the first", 1, () -> way(guarded(one(CARRIER, 5, 99, 0, 0), 6, 9), 8, 6, 7));
        reads("FOUND at the last", 2, () -> way(guarded(one(CARRIER, 5, 99, 0, 0), 7, 9), 8, 6, 7));
        reads("FOUND where it stays", 1, () -> way(guarded(one(CARRIER, 5, 99, 0, 0), 5, 9), 8, 5, 6));
        reads("gone before it is FOUND", 0, () -> way(guarded(one(CARRIER, 5, 99, 0, 0), 5, 9), 8, 6, 7));
        reads("not FOUND under CLOUDS", 0, () -> way(cloudy(guarded(one(CARRIER, 5, 99, 0, 0), 6, 9)), 8, 6, 7));
        reads("the first fault of two", 2, () -> way(guarded(one(CARRIER, 5, 99, 0, 0), 6, 9), 8, 9, 6, 99));
        long[] noon = new long[40];
        java.util.Arrays.fill(noon, 5);
        reads("40 HOURS", 0, () -> way(one(CARRIER, 5, 99, 0, 0), 8, noon));
        reads("FOUND at noon", 12, () -> way(guarded(one(BRIDE, 5, 99, 8, 0), 5, 4), 8, noon));
        long[] last = noon.clone();
        last[39] = 16;
        reads("the last of 40", 40, () -> way(one(CARRIER, 5, 99, 0, 0), 8, last));
    }

    private static void reads(String sentence, int want, Supplier<ShadeCarpets> made) {
        changesNothing("34: " + sentence, made, want, y -> y.read(0, 0));
    }

    // ---- Promises 35 to 39

    private static void promises35To39() {
        refuses("36: NONE, nothing is kept", BoundaryTest::none, NONE, y -> y.undo());
        refuses("36: NONE, all is torn", () -> {
            ShadeCarpets x = busy();
            x.tear();
            return x;
        }, NONE, y -> y.undo());
        ShadeCarpets x = none();
        due("35: an image of nothing", x.image(), 1);
        for (int i = 0; i < 8; i++) {
            x.carrier(3, 3);
            for (int what = 2; what < 6; what++) {
                x.set(i, what, 9);
            }
        }
        due("36: no CARRIERS", x.undo(), 0);
        due("36: no CARRIERS are", x.count(0), 0);
        due("36: none of them AT its PLACE", x.placeOf(3, 2), 0);
        due("36: the first is none", x.of(0, 0), BEYOND);
        due("36: it stays kept", x.undo(), 0);
        for (int i = 0; i < 8; i++) {
            due("36: there is room for 8 again", x.carrier(1, 1), i);
            due("36: SHADE at first again", x.of(i, 2), 20);
            due("36: COVER, DUSK, CASH at first again", x.of(i, 3) + x.of(i, 4) + x.of(i, 5), 0);
        }
        due("35: an image of 8", x.image(), 1);
        due("36: the latest", x.undo(), 8);
        due("36: FULL as it was", x.carrier(0, 0), FULL);
        x.set(7, 5, 999999);
        due("35: the latest alone is kept", x.image(), 1);
        x.set(7, 5, 3);
        due("36: the latest", x.undo(), 8);
        due("36: the latest", x.of(7, 5), 999999);
        due("37: one tear takes all that is kept", x.tear(), 1);
        due("37: nothing is kept", x.tear(), 0);
        due("36: nothing is kept", x.undo(), NONE);
        due("37: what is stays", x.of(7, 5), 999999);
        due("35: again", x.image() + x.tear(), 2);
        keepsAll();
        for (int what : new int[] {-1, 4, LOW, HIGH}) {
            refuses("38: count(" + what + ")", BoundaryTest::busy, BEYOND, y -> y.count(what));
        }
        counted();
        for (int which : new int[] {-2, 7, LOW, HIGH}) {
            refuses("39: status(" + which + ")", BoundaryTest::busy, BEYOND, y -> y.status(which));
        }
        statusCounts();
    }

    /** What of section 1 an act can change comes back; THE TAPE, sheets and status() do not. */
    private static void keepsAll() {
        List<Act> acts = List.of(y -> y.place(0, 0, 5), y -> y.place(15, 1, 5), y -> y.clouds(1), y -> y.carrier(0, 0),
            y -> y.set(0, 2, 5), y -> y.set(1, 3, 5), y -> y.set(2, 4, 5), y -> y.set(0, 5, 5), y -> y.turn(0, 0),
            y -> y.go(0, 4), y -> y.sell(0), y -> y.hours(1), y -> y.hours(60), y -> y.land(), y -> y.lays(2));
        for (int i = 0; i < acts.size(); i++) {
            ShadeCarpets x = busy();
            x.image();
            acts.get(i).on(x);
            due("36: CARRIERS, behind act " + i, x.undo(), 3);
            List<Long> got = new ArrayList<>();
            tellLand(x, got);
            List<Long> want = new ArrayList<>();
            tellLand(busy(), want);
            dueAll("36: it becomes what was kept, behind act " + i, got, want);
        }
        ShadeCarpets y = busy();
        y.image();
        y.feed(' ', 1);
        y.write(0, 0, 5);
        y.sheet(1, 0, 0);
        y.now(9);
        y.undo();
        due("35: THE TAPE not", y.count(1), 16);
        due("35: a sheet not", y.write(0, 0, 0), 5);
        due("35: a sheet that is MISSING not", y.lays(1), MISSING);
        due("36: status() takes none back", y.status(0), 1);
        y.wipe();
        y.undo();
        due("35: THE TAPE not, when it is empty", y.count(1), 0);
    }

    private static void counted() {
        ShadeCarpets x = full();
        due("38: CARRIERS, the most", x.count(0), 8);
        due("38: bytes, the most", x.count(1), 120);
        due("38: PLACES with a POST, none", x.count(2), 0);
        for (int p = 0; p < 16; p++) {
            x.place(p, 0, 1 + p % 9);
            x.place(p, 1, 99);
        }
        due("38: PLACES with a POST, all", x.count(2), 16);
        due("38: PRICES, the most", x.count(3), 1584);
        prices(x, 0);
        due("38: PRICES, the least", x.count(3), 0);
        x.place(7, 0, 0);
        due("38: PLACES with a POST, but one", x.count(2), 15);
    }

    private static void statusCounts() {
        ShadeCarpets x = none();
        due("39: a refused one is counted from then on", x.status(7), BEYOND);
        due("39: counted then", x.status(0), 1);
        due("39: all of them", x.status(-1), 1);
        due("39: a refused one again", x.status(-2), BEYOND);
        due("39: counted then", x.status(-1), 2);
        due("39: not as another", x.status(1) + x.status(2) + x.status(3) + x.status(4) + x.status(5) + x.status(6), 0);
        ShadeCarpets y = full();
        for (int i = 0; i < 7; i++) {
            for (int j = 0; j <= i; j++) {
                found(y, i);
            }
        }
        for (int i = 0; i < 7; i++) {
            due("39: which " + i, y.status(i), i + 1);
        }
        due("39: all", y.status(-1), 28);
        y.undo();
        due("39: undo() takes none back", y.status(-1), 28);
        y.tear();
        due("39: nor tear()", y.status(-1), 28);
        due("39: a fault of a text is none", y.wipe() + y.land() + y.status(-1), 120 - 1 + 28);
        due("39: the last which", y.status(6), 7);
    }

    /** An act that answers finding i. */
    private static long found(ShadeCarpets x, int i) {
        switch (i) {
            case 0: return x.heat(-1);
            case 1: return x.carrier(0, 0);
            case 2: return x.as(0, 5);
            case 3: return x.found(0);
            case 4: return x.go(0, 0);
            case 5: return x.lays(0);
            default: return x.sheet(0, 0, -1);
        }
    }
}
