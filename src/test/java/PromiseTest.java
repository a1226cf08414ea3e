/** For each promise: ordinary inputs, the edges that the document names, and wrong inputs. */
public final class PromiseTest {
    private static final int BEYOND = -1000000001;
    private static final int FULL = -1000000002;
    private static final int KIND = -1000000003;
    private static final int NONE = -1000000004;
    private static final int STATE = -1000000005;
    private static final int MISSING = -1000000006;
    private static final int SIZE = -1000000007;
    private static final int LOW = Integer.MIN_VALUE;
    private static final int HIGH = Integer.MAX_VALUE;

    private static int wrong = 0;

    private static void due(String what, long got, long want) {
        if (got != want) {
            wrong++;
            System.out.println(what + ": answered " + got + ", due is " + want);
        }
    }

    private static void feed(ShadeCarpets x, String text) {
        for (int i = 0; i < text.length(); i++) {
            x.feed(text.charAt(i), 1);
        }
    }

    private static int land(ShadeCarpets x, String text) {
        feed(x, text);
        return x.land();
    }

    /** One of a kind with shade, cover and dusk at a place. */
    private static int one(ShadeCarpets x, int kind, int place, int shade, int cover, int dusk) {
        int c = x.carrier(kind, place);
        x.set(c, 2, shade);
        x.set(c, 3, cover);
        x.set(c, 4, dusk);
        return c;
    }

    private static void hours(ShadeCarpets x, int n) {
        for (int left = n; left > 0; left -= 60) {
            x.hours(Math.min(60, left));
        }
    }

    public static void main(String[] args) {
        p1New();
        p2Place();
        p3PlaceOf();
        p4Clouds();
        p5Heat();
        p6Carrier();
        p7OfCool();
        p7OfFades();
        p7OfValue();
        p7OfFound();
        p7OfRest();
        p8Set();
        p9Turn();
        p10As();
        p11Go();
        p12Sell();
        p13Hours();
        p14Now();
        p15On();
        p16Found();
        p17FirstFound();
        p18Soonest();
        p19Reach();
        p20Cover();
        p21Best();
        p22Where();
        p23Post();
        p24Kind();
        p25Depart();
        p26Feed();
        p27Wipe();
        p28LandItems();
        p28LandFaults();
        p28LandNinth();
        p28LandTape();
        p29Sheet();
        p30Write();
        p31Copy();
        p32Lays();
        p33Book();
        p34Read();
        p35To37Images();
        p38Count();
        p39Status();
        System.out.println(wrong == 0 ? "all promises hold" : wrong + " answers are not as due");
        if (wrong != 0) {
            System.exit(1);
        }
    }

    private static void p1New() {
        ShadeCarpets x = new ShadeCarpets();
        due("1 no carriers", x.count(0), 0);
        due("1 tape empty", x.count(1), 0);
        due("1 no posts", x.count(2), 0);
        due("1 prices 10", x.count(3), 160);
        due("1 hour", x.now(0), 0);
        due("1 clouds", x.now(2), 0);
        due("1 no image", x.tear(), 0);
        due("1 no findings", x.status(-1), 0);
        due("1 carrier 0 is none", x.of(0, 0), BEYOND);
        for (int s = 0; s < 4; s++) {
            due("1 sheet missing", x.lays(s), MISSING);
        }
    }

    private static void p2Place() {
        ShadeCarpets x = new ShadeCarpets();
        due("2 post", x.place(0, 0, 9), 0);
        due("2 post again", x.place(0, 0, 0), 9);
        due("2 price", x.place(15, 1, 99), 10);
        due("2 price again", x.place(15, 1, 0), 99);
        due("2 other place's price", x.placeOf(14, 1), 10);
        int[][] bad = {{-1, 0, 0}, {16, 0, 0}, {LOW, 1, 0}, {HIGH, 1, 0}, {0, -1, 0}, {0, 2, 0}, {0, LOW, 0},
            {0, 0, -1}, {0, 0, 10}, {0, 1, -1}, {0, 1, 100}, {0, 1, HIGH}};
        for (int[] b : bad) {
            due("2 beyond", x.place(b[0], b[1], b[2]), BEYOND);
        }
        due("2 post may not be a price", x.place(0, 0, 50), BEYOND);
        due("2 nothing changed", x.count(2) * 1000 + x.count(3), 150);
    }

    private static void p3PlaceOf() {
        ShadeCarpets x = new ShadeCarpets();
        x.place(3, 0, 7);
        x.place(3, 1, 33);
        x.carrier(0, 3);
        x.carrier(0, 4);
        x.carrier(0, 3);
        due("3 post", x.placeOf(3, 0), 7);
        due("3 price", x.placeOf(3, 1), 33);
        due("3 carriers", x.placeOf(3, 2), 5);
        due("3 none", x.placeOf(5, 2), 0);
        due("3 next to 0", x.placeOf(0, 3), 1 << 1 | 1 << 4);
        due("3 next to 3, not 4", x.placeOf(3, 3), 1 << 2 | 1 << 7);
        due("3 next to 4, not 3", x.placeOf(4, 3), 1 << 0 | 1 << 5 | 1 << 8);
        due("3 next to 10", x.placeOf(10, 3), 1 << 6 | 1 << 9 | 1 << 11 | 1 << 14);
        due("3 next to 12", x.placeOf(12, 3), 1 << 8 | 1 << 13);
        due("3 next to 15", x.placeOf(15, 3), 1 << 11 | 1 << 14);
        due("3 beyond", x.placeOf(16, 0), BEYOND);
        due("3 beyond", x.placeOf(-1, 3), BEYOND);
        due("3 beyond", x.placeOf(0, 4), BEYOND);
        due("3 beyond", x.placeOf(0, -1), BEYOND);
        due("3 beyond", x.placeOf(LOW, HIGH), BEYOND);
    }

    private static void p4Clouds() {
        ShadeCarpets x = new ShadeCarpets();
        due("4 were", x.clouds(1), 0);
        due("4 were", x.clouds(1), 1);
        due("4 beyond", x.clouds(2), BEYOND);
        due("4 beyond", x.clouds(-1), BEYOND);
        due("4 are", x.now(2), 1);
        due("4 were", x.clouds(0), 1);
    }

    private static void p5Heat() {
        ShadeCarpets x = new ShadeCarpets();
        int[] heats = {0, 1, 2, 3, 4, 5, 6, 7, 8, 9, 10, 11, 12, 11, 10, 9, 8, 7, 6, 5, 4, 3, 2, 1};
        for (int h = 0; h < 72; h++) {
            due("5 heat " + h, x.heat(h), heats[h % 24]);
        }
        due("5 last", x.heat(99999), heats[99999 % 24]);
        due("5 beyond", x.heat(100000), BEYOND);
        due("5 beyond", x.heat(-1), BEYOND);
        due("5 beyond", x.heat(LOW), BEYOND);
    }

    private static void p6Carrier() {
        ShadeCarpets x = new ShadeCarpets();
        due("6 beyond", x.carrier(-1, 0), BEYOND);
        due("6 beyond", x.carrier(6, 0), BEYOND);
        due("6 beyond", x.carrier(0, -1), BEYOND);
        due("6 beyond", x.carrier(0, 16), BEYOND);
        for (int i = 0; i < 8; i++) {
            due("6 number", x.carrier(i % 6, i), i);
        }
        int[] fresh = {1, 7, 20, 0, 0, 0};
        for (int w = 0; w < 6; w++) {
            due("6 fresh " + w, x.of(7, w), fresh[w]);
        }
        due("6 full", x.carrier(0, 0), FULL);
        due("6 beyond before full", x.carrier(0, 16), BEYOND);
        due("6 beyond before full", x.carrier(6, 0), BEYOND);
        due("6 eight", x.count(0), 8);
        ShadeCarpets y = new ShadeCarpets();
        y.image();
        one(y, 3, 3, 77, 8, 9);
        y.set(0, 5, 1234);
        y.place(3, 0, 9);
        y.undo();
        due("6 one that was undone is none", y.firstFound(), NONE);
        due("6 nor of all together", y.now(3) + y.now(4) + y.now(5) + y.placeOf(3, 2), 0);
        due("6 a new one", y.carrier(2, 2), 0);
        int[] anew = {2, 2, 20, 0, 0, 0};
        for (int w = 0; w < 6; w++) {
            due("6 anew " + w, y.of(0, w), anew[w]);
        }
    }

    private static void p7OfCool() {
        ShadeCarpets x = new ShadeCarpets();
        for (int k = 0; k < 6; k++) {
            one(x, k, 0, 99, 0, 3);
        }
        int[] atSeventh = {24, 12, 21, 49, 10, 0};
        for (int k = 0; k < 6; k++) {
            due("7 cool of kind " + k + " at hour 0", x.of(k, 6), atSeventh[k]);
        }
        x.hours(1);
        x.set(5, 2, 99);
        due("7 priest cool at hour 1", x.of(5, 6), 21);
        x.hours(6);
        x.set(5, 2, 99);
        due("7 priest cool at hour 7", x.of(5, 6), 0);
        x.set(0, 2, 3);
        due("7 a fourth is cut", x.of(0, 6), 0);
        x.set(1, 2, 15);
        due("7 half of a fourth is cut twice", x.of(1, 6), 1);
        x.set(2, 2, 8);
        due("7 dealer 0 at least", x.of(2, 6), 0);
        x.set(4, 2, 15);
        due("7 bride 0 at least", x.of(4, 6), 0);
        x.set(3, 2, 15);
        due("7 caravan half cut", x.of(3, 6), 7);
    }

    private static void p7OfFades() {
        ShadeCarpets x = new ShadeCarpets();
        for (int k = 0; k < 6; k++) {
            one(x, k, 0, 99, 0, 4);
        }
        int[][] dueAt = {{0, 0, 0, 1, 0, 0}, {1, 1, 1, 2, 0, 1}, {2, 2, 2, 3, 1, 2}};
        for (int t = 0; t < 3; t++) {
            for (int k = 0; k < 6; k++) {
                due("7 fades of kind " + k + " at hour " + 6 * t, x.of(k, 7), dueAt[t][k]);
            }
            x.hours(6);
        }
        x.set(2, 4, 5);
        x.set(5, 4, 5);
        x.set(0, 4, 5);
        due("7 heat 6 again, dusk 5: dealer", x.of(2, 7), 2);
        due("7 dusk 5: priest", x.of(5, 7), 2);
        due("7 dusk 5: carrier", x.of(0, 7), 1);
        x.hours(1);
        due("7 heat 5: a sixth is cut", x.of(0, 7), 0);
    }

    private static void p7OfValue() {
        ShadeCarpets x = new ShadeCarpets();
        x.place(6, 1, 7);
        for (int k = 0; k < 6; k++) {
            one(x, k, 6, 29, 0, 3);
        }
        int[] values = {203, 203, 224, 101, 203, 0};
        for (int k = 0; k < 6; k++) {
            due("7 value of kind " + k, x.of(k, 8), values[k]);
        }
        x.set(4, 2, 30);
        x.set(1, 2, 30);
        due("7 bride with 30", x.of(4, 8), 260);
        due("7 granny with 30", x.of(1, 8), 210);
        x.set(2, 2, 0);
        due("7 dealer's dusk without shade", x.of(2, 8), 21);
        x.place(6, 1, 0);
        due("7 bride at price 0", x.of(4, 8), 50);
    }

    private static void p7OfFound() {
        ShadeCarpets x = new ShadeCarpets();
        int c = one(x, 0, 5, 32, 2, 0);
        x.place(5, 0, 3);
        due("7 8 and 0 and 3 are not above 9 and 2", x.of(c, 9), 0);
        x.place(5, 0, 4);
        due("7 8 and 0 and 4 are above 9 and 2", x.of(c, 9), 1);
        x.clouds(1);
        due("7 clouds are an amnesty", x.of(c, 9), 0);
        x.clouds(0);
        x.set(c, 2, 0);
        x.place(5, 0, 9);
        due("7 no shade, not found", x.of(c, 9), 0);
        x.set(c, 2, 99);
        x.place(5, 0, 0);
        due("7 no post, not found", x.of(c, 9), 0);
        ShadeCarpets y = new ShadeCarpets();
        int d = one(y, 1, 5, 20, 0, 0);
        hours(y, 11);
        y.set(d, 2, 20);
        y.place(5, 0, 5);
        due("7 a third of heat 11 is 3", y.of(d, 9), 1);
        y.place(5, 0, 4);
        due("7 a third of heat 11 is 3", y.of(d, 9), 0);
        y.hours(1);
        y.set(d, 2, 20);
        due("7 a third of heat 12 is 4", y.of(d, 9), 1);
        y.place(5, 0, 6);
        y.set(d, 2, 1);
        due("7 1 of shade is found like more: 0 and 4 and 6", y.of(d, 9), 1);
    }

    private static void p7OfRest() {
        ShadeCarpets x = new ShadeCarpets();
        x.carrier(4, 9);
        x.set(0, 2, 11);
        x.set(0, 3, 3);
        x.set(0, 4, 8);
        x.set(0, 5, 123456);
        int[] all = {4, 9, 11, 3, 8, 123456};
        for (int w = 0; w < 6; w++) {
            due("7 what " + w, x.of(0, w), all[w]);
        }
        due("7 beyond", x.of(1, 0), BEYOND);
        due("7 beyond", x.of(-1, 0), BEYOND);
        due("7 beyond", x.of(0, -1), BEYOND);
        due("7 beyond", x.of(0, 10), BEYOND);
        due("7 beyond", x.of(HIGH, LOW), BEYOND);
    }

    private static void p8Set() {
        ShadeCarpets x = new ShadeCarpets();
        x.carrier(0, 0);
        int[] most = {0, 0, 99, 9, 9, 999999};
        int[] first = {0, 0, 20, 0, 0, 0};
        for (int w = 2; w < 6; w++) {
            due("8 what it was", x.set(0, w, most[w]), first[w]);
            due("8 too much", x.set(0, w, most[w] + 1), BEYOND);
            due("8 too little", x.set(0, w, -1), BEYOND);
            due("8 what it was", x.set(0, w, 0), most[w]);
            due("8 is", x.of(0, w), 0);
        }
        due("8 beyond", x.set(0, 0, 0), BEYOND);
        due("8 beyond", x.set(0, 1, 0), BEYOND);
        due("8 beyond", x.set(0, 6, 0), BEYOND);
        due("8 beyond", x.set(1, 2, 0), BEYOND);
        due("8 beyond", x.set(-1, 2, 0), BEYOND);
        due("8 beyond", x.set(0, LOW, HIGH), BEYOND);
    }

    private static void p9Turn() {
        ShadeCarpets x = new ShadeCarpets();
        one(x, 2, 7, 33, 4, 5);
        x.set(0, 5, 6);
        due("9 was", x.turn(0, 4), 2);
        due("9 was", x.turn(0, 4), 4);
        int[] rest = {4, 7, 33, 4, 5, 6};
        for (int w = 0; w < 6; w++) {
            due("9 what " + w, x.of(0, w), rest[w]);
        }
        due("9 beyond", x.turn(0, 6), BEYOND);
        due("9 beyond", x.turn(0, -1), BEYOND);
        due("9 beyond", x.turn(1, 0), BEYOND);
        due("9 beyond", x.turn(-1, 0), BEYOND);
    }

    private static void p10As() {
        ShadeCarpets x = new ShadeCarpets();
        int[] asKinds = {0b000001, 0b000011, 0b000101, 0b001001, 0b010011, 0b100101};
        for (int k = 0; k < 6; k++) {
            x.carrier(k, 0);
            x.set(k, 2, 50 + k);
        }
        for (int c = 0; c < 6; c++) {
            for (int k = 0; k < 6; k++) {
                boolean is = (asKinds[c] >> k & 1) == 1;
                due("10 " + c + " as " + k, x.as(c, k), is ? 50 + c : KIND);
            }
        }
        due("10 beyond", x.as(6, 0), BEYOND);
        due("10 beyond", x.as(-1, 0), BEYOND);
        due("10 beyond", x.as(0, 6), BEYOND);
        due("10 beyond", x.as(0, -1), BEYOND);
    }

    private static void p11Go() {
        ShadeCarpets x = new ShadeCarpets();
        x.carrier(0, 3);
        x.place(7, 0, 9);
        x.set(0, 2, 99);
        due("11 stays", x.go(0, 3), STATE);
        due("11 4 is in another row", x.go(0, 4), STATE);
        due("11 not so far", x.go(0, 11), STATE);
        due("11 askew", x.go(0, 6), STATE);
        due("11 at once, found at the next hour alone", x.go(0, 7), 99);
        due("11 is there", x.of(0, 1), 7);
        due("11 no hour went", x.now(0), 0);
        due("11 goes on", x.go(0, 6), 99);
        x.hours(1);
        due("11 was not found on its way", x.of(0, 2), 99);
        due("11 beyond", x.go(0, 16), BEYOND);
        due("11 beyond", x.go(0, -1), BEYOND);
        due("11 beyond", x.go(1, 0), BEYOND);
        due("11 beyond", x.go(LOW, 0), BEYOND);
    }

    private static void p12Sell() {
        ShadeCarpets x = new ShadeCarpets();
        int c = one(x, 2, 5, 10, 0, 4);
        x.place(5, 1, 6);
        due("12 value", x.sell(c), 84);
        due("12 cash", x.of(c, 5), 84);
        due("12 shade", x.of(c, 2), 0);
        due("12 dusk stays", x.of(c, 4), 4);
        due("12 no shade", x.sell(c), STATE);
        x.set(c, 2, 1);
        due("12 value", x.sell(c), 30);
        due("12 cash more", x.of(c, 5), 114);
        x.set(c, 5, 999990);
        x.set(c, 2, 1);
        due("12 value past what it can have", x.sell(c), 30);
        due("12 cash at most", x.of(c, 5), 999999);
        int p = x.carrier(5, 5);
        due("12 priest gets nothing", x.sell(p), 0);
        due("12 priest's shade", x.of(p, 2), 0);
        due("12 beyond", x.sell(2), BEYOND);
        due("12 beyond", x.sell(-1), BEYOND);
    }

    private static void p13Hours() {
        ShadeCarpets x = new ShadeCarpets();
        one(x, 0, 0, 50, 0, 0);
        one(x, 3, 0, 2, 0, 0);
        one(x, 0, 5, 40, 0, 0);
        one(x, 0, 6, 40, 0, 0);
        x.place(5, 0, 1);
        due("13 hours 1 to 5: 10 and 0 and 1 found at the third heat", x.hours(1), 50 + 1 + 0 + 40);
        due("13 hour", x.now(0), 1);
        due("13 caravan 0 at least", x.hours(5), 90);
        due("13 heat 6 is the hour's that goes, not the next", x.hours(1), 88);
        due("13 heats 7 to 12 fade 1 5 times", x.hours(5), 78);
        due("13 heat 12 fades 2", x.hours(1), 74);
        due("13 beyond", x.hours(0), BEYOND);
        due("13 beyond", x.hours(61), BEYOND);
        due("13 beyond", x.hours(-1), BEYOND);
        due("13 beyond", x.hours(HIGH), BEYOND);
        due("13 60 are fine", x.hours(60), x.now(3));
        due("13 hour", x.now(0), 73);
        ShadeCarpets y = new ShadeCarpets();
        int c = one(y, 0, 5, 24, 0, 0);
        y.place(5, 0, 2);
        hours(y, 5);
        y.set(c, 2, 24);
        due("13 found by the next hour's heat: 6 and 2 and 2", y.hours(1), 0);
    }

    private static void p14Now() {
        ShadeCarpets x = new ShadeCarpets();
        x.carrier(0, 0);
        x.carrier(1, 1);
        x.carrier(2, 2);
        x.set(0, 5, 999999);
        x.set(2, 5, 2);
        x.set(1, 2, 0);
        x.place(0, 0, 1);
        x.place(15, 0, 9);
        x.clouds(1);
        x.hours(7);
        int[] all = {7, 7, 1, 38, 1000001, 5, 1 << 15 | 1};
        for (int w = 0; w < 7; w++) {
            due("14 what " + w, x.now(w), all[w]);
        }
        due("14 beyond", x.now(7), BEYOND);
        due("14 beyond", x.now(-1), BEYOND);
        x.set(0, 2, 0);
        x.set(2, 2, 1);
        due("14 with shade", x.now(5), 4);
    }

    private static void p15On() {
        ShadeCarpets x = new ShadeCarpets();
        one(x, 3, 0, 50, 0, 0);
        due("15 0 hours", x.on(0, 0), 50);
        due("15 1 hour", x.on(0, 1), 49);
        due("15 7 hours", x.on(0, 7), 42);
        due("15 13 hours", x.on(0, 13), 29);
        due("15 60 hours", x.on(0, 60), 0);
        x.place(0, 0, 9);
        due("15 found", x.on(0, 1), 0);
        due("15 now, not found yet", x.on(0, 0), 50);
        due("15 nothing changes", x.of(0, 2) * 10 + x.now(0), 500);
        x.place(0, 0, 0);
        x.hours(11);
        x.set(0, 2, 50);
        due("15 heats 11, 12 and 11 on", x.on(0, 3), 43);
        x.hours(8);
        x.set(0, 2, 50);
        due("15 heats 5, 4 and 3 on", x.on(0, 3), 47);
        due("15 beyond", x.on(0, -1), BEYOND);
        due("15 beyond", x.on(0, 61), BEYOND);
        due("15 beyond", x.on(1, 0), BEYOND);
        due("15 beyond", x.on(-1, 0), BEYOND);
    }

    private static void p16Found() {
        ShadeCarpets x = new ShadeCarpets();
        one(x, 0, 0, 32, 0, 0);
        due("16 none", x.found(0), NONE);
        x.place(0, 0, 2);
        due("16 8 and 0 and 2 at once", x.found(0), 1);
        x.set(0, 3, 1);
        due("16 with cover 1, 8 and 1 and 2 at hour 3", x.found(0), 3);
        x.set(0, 3, 2);
        due("16 with cover 2, 8 and 2 and 2 at hour 6, whose heat fades it only then", x.found(0), 6);
        x.set(0, 3, 9);
        due("16 none", x.found(0), NONE);
        x.set(0, 3, 0);
        x.clouds(1);
        due("16 clouds", x.found(0), NONE);
        due("16 nothing changes", x.of(0, 2) * 10 + x.now(0), 320);
        due("16 beyond", x.found(1), BEYOND);
        due("16 beyond", x.found(-1), BEYOND);
        ShadeCarpets y = new ShadeCarpets();
        one(y, 4, 0, 99, 0, 0);
        hours(y, 13);
        y.set(0, 2, 99);
        y.place(0, 0, 1);
        due("16 8 and more of heat are above 9 next at once", y.found(0), 1);
        y.set(0, 2, 80);
        y.set(0, 3, 3);
        due("16 8 and 4 and 1 at hour 36 alone", y.found(0), 23);
        y.set(0, 3, 4);
        due("16 with cover 4 never", y.found(0), NONE);
    }

    private static void p17FirstFound() {
        ShadeCarpets x = new ShadeCarpets();
        due("17 none", x.firstFound(), NONE);
        one(x, 0, 0, 32, 1, 0);
        one(x, 0, 0, 32, 0, 0);
        one(x, 0, 0, 32, 0, 0);
        due("17 none", x.firstFound(), NONE);
        x.place(0, 0, 2);
        due("17 the least of those found first", x.firstFound(), 1);
        x.set(0, 3, 0);
        due("17 the least", x.firstFound(), 0);
        x.set(0, 2, 0);
        x.set(1, 2, 31);
        due("17 the one that is found first", x.firstFound(), 2);
        due("17 nothing changes", x.now(3), 63);
    }

    private static void p18Soonest() {
        ShadeCarpets x = new ShadeCarpets();
        one(x, 0, 0, 40, 0, 0);
        due("18 here", x.soonest(0, 0), 0);
        due("18 as far as it is", x.soonest(0, 15), 6);
        due("18 3 and 4 are not next", x.soonest(0, 3), 3);
        x.place(1, 0, 9);
        x.place(4, 0, 9);
        x.set(0, 2, 99);
        due("18 shut in within 48 hours", x.soonest(0, 15), NONE);
        x.set(0, 2, 1);
        due("18 0 and 9 and a third of heat 3 at hour 3: before it", x.soonest(0, 15), 6);
        x.place(0, 0, 9);
        x.set(0, 2, 99);
        due("18 here, with a post", x.soonest(0, 0), 0);
        due("18 nowhere else", x.soonest(0, 1), NONE);
        x.clouds(1);
        due("18 clouds", x.soonest(0, 15), 6);
        due("18 beyond", x.soonest(0, 16), BEYOND);
        due("18 beyond", x.soonest(0, -1), BEYOND);
        due("18 beyond", x.soonest(1, 0), BEYOND);
        due("18 nothing changes", x.of(0, 2) * 100 + x.of(0, 1) * 10 + x.now(0), 9900);
        ShadeCarpets y = new ShadeCarpets();
        one(y, 5, 0, 99, 0, 0);
        y.place(1, 0, 8);
        y.place(4, 0, 9);
        due("18 a priest waits for the 7th hour: 0 and 2 and 8, for the 21st: 0 and 1 and 8", y.soonest(0, 1), 21);
        y.place(1, 0, 9);
        due("18 hour 49 is the next when 9 finds no priest, 49 off", y.soonest(0, 1), NONE);
        due("20 as far off", y.cover(0, 1, 48), 1);
        y.hours(1);
        y.set(0, 2, 99);
        due("18 48 off", y.soonest(0, 1), 48);
        due("19 48 off", y.reach(0, 48), 1 | 1 << 1 | 1 << 4);
        due("20 48 off", y.cover(0, 1, 48), 0);
        due("20 not 47", y.cover(0, 1, 47), 1);
        due("23 any sooner", y.post(0, 1), 1);
        hours(y, 23);
        y.set(0, 2, 99);
        due("18 25 off", y.soonest(0, 1), 25);
        due("25 at most 23", y.depart(0, 1), 23);
    }

    private static void p19Reach() {
        ShadeCarpets x = new ShadeCarpets();
        one(x, 0, 0, 40, 0, 0);
        due("19 0 hours", x.reach(0, 0), 1);
        due("19 1 hour", x.reach(0, 1), 1 | 1 << 1 | 1 << 4);
        due("19 2 hours", x.reach(0, 2), 1 | 1 << 1 | 1 << 2 | 1 << 4 | 1 << 5 | 1 << 8);
        due("19 48 hours", x.reach(0, 48), 65535);
        x.place(1, 0, 9);
        x.place(0, 0, 9);
        due("19 it must leave", x.reach(0, 1), 1 << 4);
        due("19 here at first", x.reach(0, 0), 1);
        due("19 then", x.reach(0, 2), 1 << 4 | 1 << 5 | 1 << 8);
        x.set(0, 2, 4);
        due("19 1 and 0 and 9", x.reach(0, 1), 1 << 4);
        x.set(0, 2, 3);
        due("19 0 and 0 and 9", x.reach(0, 1), 1 | 1 << 1 | 1 << 4);
        x.set(0, 2, 40);
        x.place(4, 0, 9);
        due("19 nowhere", x.reach(0, 1), 0);
        due("19 nor later, when its shade would be gone", x.reach(0, 48), 0);
        due("19 beyond", x.reach(0, -1), BEYOND);
        due("19 beyond", x.reach(0, 49), BEYOND);
        due("19 beyond", x.reach(1, 0), BEYOND);
        due("19 beyond", x.reach(-1, 0), BEYOND);
    }

    private static void p20Cover() {
        ShadeCarpets x = new ShadeCarpets();
        one(x, 0, 0, 40, 9, 0);
        due("20 none is needed", x.cover(0, 15, 6), 0);
        due("20 too far", x.cover(0, 15, 5), NONE);
        due("20 here", x.cover(0, 0, 0), 0);
        x.place(1, 0, 5);
        x.place(4, 0, 7);
        due("20 10 and 0 and 5 take 6", x.cover(0, 1, 1), 6);
        due("20 the better of two ways", x.cover(0, 5, 2), 6);
        due("20 10 and 0 and 7 take 8", x.cover(0, 4, 1), 8);
        x.place(4, 0, 8);
        due("20 10 and 0 and 8 take 9", x.cover(0, 4, 1), 9);
        x.place(4, 0, 9);
        due("20 10 and 0 and 9 take 10", x.cover(0, 4, 1), NONE);
        x.place(4, 0, 7);
        x.set(0, 3, 0);
        due("20 its own cover is nothing to it", x.cover(0, 4, 1), 8);
        due("20 its own cover stays", x.of(0, 3), 0);
        x.set(0, 2, 99);
        due("20 9 are too few", x.cover(0, 4, 1), NONE);
        due("20 beyond", x.cover(0, 16, 0), BEYOND);
        due("20 beyond", x.cover(0, -1, 0), BEYOND);
        due("20 beyond", x.cover(1, 0, 0), BEYOND);
        due("20 beyond", x.cover(0, 0, 49), BEYOND);
        due("20 beyond", x.cover(0, 0, -1), BEYOND);
    }

    private static void p21Best() {
        ShadeCarpets x = new ShadeCarpets();
        one(x, 3, 0, 41, 0, 0);
        due("21 here, cut", x.best(0, 0), 205);
        x.place(2, 1, 20);
        x.place(15, 1, 99);
        due("21 not far enough", x.best(0, 1), 205);
        due("21 39 at 20", x.best(0, 2), 390);
        due("21 35 at 99, at hour 6", x.best(0, 6), 1732);
        due("21 later is worse", x.best(0, 48), 1732);
        x.place(15, 0, 9);
        x.place(2, 0, 9);
        due("21 no free way", x.best(0, 8), 205);
        x.set(0, 2, 0);
        x.turn(0, 2);
        x.set(0, 4, 9);
        due("21 no shade", x.best(0, 48), 0);
        x.set(0, 2, 1);
        x.place(0, 1, 0);
        x.place(5, 1, 60);
        due("21 its last shade fades in the first hour, and dusk alone sells not", x.best(0, 48), 0);
        x.turn(0, 5);
        due("21 a priest", x.best(0, 48), 0);
        due("21 beyond", x.best(0, 49), BEYOND);
        due("21 beyond", x.best(0, -1), BEYOND);
        due("21 beyond", x.best(1, 0), BEYOND);
        due("21 beyond", x.best(-1, 0), BEYOND);
    }

    private static void p22Where() {
        ShadeCarpets x = new ShadeCarpets();
        one(x, 0, 5, 40, 0, 0);
        due("22 here", x.where(0, 48), 5);
        x.place(6, 1, 20);
        x.place(4, 1, 20);
        due("22 the least of places", x.where(0, 48), 104);
        x.place(0, 1, 20);
        due("22 the fewest hours before the least place", x.where(0, 48), 104);
        x.place(15, 1, 90);
        due("22 not so soon", x.where(0, 3), 104);
        due("22 4 hours off", x.where(0, 4), 415);
        x.set(0, 2, 0);
        due("22 for 0 it is here", x.where(0, 48), 5);
        due("22 beyond", x.where(0, 49), BEYOND);
        due("22 beyond", x.where(0, -1), BEYOND);
        due("22 beyond", x.where(1, 0), BEYOND);
    }

    private static void p23Post() {
        ShadeCarpets x = new ShadeCarpets();
        one(x, 0, 0, 99, 0, 0);
        due("23 no posts", x.post(0, 15), NONE);
        x.place(1, 0, 9);
        x.place(4, 0, 9);
        due("23 either helps, the least", x.post(0, 15), 1);
        due("23 the one that lets it be there soonest", x.post(0, 8), 4);
        due("23 the place itself", x.post(0, 4), 4);
        due("23 it is here already", x.post(0, 0), NONE);
        x.place(2, 0, 9);
        x.place(5, 0, 9);
        due("23 the way by 1 is shut behind it", x.post(0, 15), 4);
        x.place(8, 0, 9);
        due("23 no one of them opens it", x.post(0, 15), NONE);
        due("23 nothing changes", x.placeOf(4, 0), 9);
        ShadeCarpets y = new ShadeCarpets();
        one(y, 0, 0, 99, 0, 0);
        y.place(1, 0, 9);
        due("23 not sooner than as it is", y.post(0, 5), NONE);
        due("23 sooner than as it is: 2 by 1, not 4 about", y.post(0, 2), 1);
        y.clouds(1);
        due("23 clouds", y.post(0, 2), NONE);
        y.clouds(0);
        y.go(0, 4);
        y.place(0, 0, 1);
        due("23 the least place, the least post", y.post(0, 0), 0);
        due("23 beyond", y.post(0, 16), BEYOND);
        due("23 beyond", y.post(0, -1), BEYOND);
        due("23 beyond", y.post(1, 0), BEYOND);
        due("23 beyond", y.post(-1, 0), BEYOND);
    }

    private static void p24Kind() {
        ShadeCarpets x = new ShadeCarpets();
        one(x, 5, 0, 29, 0, 0);
        due("24 carrier, granny, dealer and bride alike: the least", x.kind(0, 0), 0);
        x.set(0, 4, 1);
        due("24 dusk sells as dealer", x.kind(0, 0), 2);
        x.set(0, 2, 30);
        due("24 a bride's 50", x.kind(0, 0), 4);
        x.set(0, 4, 6);
        due("24 a dealer's 60", x.kind(0, 0), 2);
        x.place(1, 1, 99);
        x.place(1, 0, 6);
        x.set(0, 4, 0);
        x.set(0, 2, 29);
        due("24 as granny it comes through: 3 and 6", x.kind(0, 1), 1);
        x.set(0, 2, 0);
        due("24 with no shade the least", x.kind(0, 48), 0);
        due("24 it stays what it is", x.of(0, 0), 5);
        due("24 beyond", x.kind(0, 49), BEYOND);
        due("24 beyond", x.kind(0, -1), BEYOND);
        due("24 beyond", x.kind(1, 0), BEYOND);
    }

    private static void p25Depart() {
        ShadeCarpets x = new ShadeCarpets();
        one(x, 5, 0, 99, 0, 0);
        due("25 no need to stay", x.depart(0, 15), 0);
        due("25 here", x.depart(0, 0), 0);
        x.place(1, 0, 8);
        x.place(4, 0, 9);
        due("25 till the hour before the 21st", x.depart(0, 1), 20);
        x.place(0, 0, 9);
        due("25 it can't stay so long, nor go", x.depart(0, 1), NONE);
        x.clouds(1);
        due("25 clouds", x.depart(0, 1), 0);
        due("25 beyond", x.depart(0, 16), BEYOND);
        due("25 beyond", x.depart(0, -1), BEYOND);
        due("25 beyond", x.depart(1, 0), BEYOND);
        due("25 beyond", x.depart(-1, 0), BEYOND);
        due("25 nothing changes", x.of(0, 2) * 10 + x.now(0), 990);
        ShadeCarpets y = new ShadeCarpets();
        hours(y, 7);
        one(y, 5, 0, 34, 2, 0);
        y.place(1, 0, 8);
        y.place(4, 0, 8);
        due("25 till the hour before the 14th", y.depart(0, 1), 6);
        y.place(0, 0, 1);
        due("25 found in the 9th hour: 8 and 3 and 1", y.depart(0, 1), NONE);
    }

    private static void p26Feed() {
        ShadeCarpets x = new ShadeCarpets();
        due("26 beyond", x.feed(0, 0), BEYOND);
        due("26 beyond", x.feed(0, 5), BEYOND);
        due("26 beyond", x.feed(0, -1), BEYOND);
        due("26 highest of the lowest first", x.feed(0x7f73756e, 3), 3);
        due("26 sun", x.land(), 1);
        for (int i = 1; i <= 29; i++) {
            due("26 how many", x.feed(-1, 4), 4 * i);
        }
        due("26 119", x.feed(-1, 3), 119);
        due("26 full", x.feed(-1, 2), FULL);
        due("26 nothing came", x.count(1), 119);
        due("26 120", x.feed(-1, 1), 120);
        due("26 full", x.feed(-1, 1), FULL);
        due("26 beyond before full", x.feed(-1, 5), BEYOND);
        due("26 bytes above 127 begin no token", x.land(), -1);
    }

    private static void p27Wipe() {
        ShadeCarpets x = new ShadeCarpets();
        due("27 none", x.wipe(), 0);
        feed(x, "clouds");
        due("27 had", x.wipe(), 6);
        due("27 empty", x.count(1), 0);
        due("27 nothing is told", x.land(), -1);
    }

    private static void p28LandItems() {
        ShadeCarpets x = new ShadeCarpets();
        due("28 items", land(x, "carrier at 0;granny at 1 shade 0;dealer at 2 cover 9;caravan at 15 dusk 9"), 4);
        due("28 tape is empty", x.count(1), 0);
        due("28 items", land(x, "  bride at 014 shade 99 cover 1 dusk 2 ; priest at 3 cover 4 dusk 5;price 0 99"), 3);
        int[][] all = {{0, 0, 20, 0, 0, 0}, {1, 1, 0, 0, 0, 0}, {2, 2, 20, 9, 0, 0}, {3, 15, 20, 0, 9, 0},
            {4, 14, 99, 1, 2, 0}, {5, 3, 20, 4, 5, 0}};
        due("28 carriers", x.count(0), 6);
        for (int c = 0; c < 6; c++) {
            for (int w = 0; w < 6; w++) {
                due("28 of " + c + " what " + w, x.of(c, w), all[c][w]);
            }
        }
        due("28 items", land(x, "post 15 9;post 15 8;price 1 0;clouds;sun;clouds"), 6);
        due("28 post", x.placeOf(15, 0), 8);
        due("28 prices", x.placeOf(0, 1) * 100 + x.placeOf(1, 1), 9900);
        due("28 clouds", x.now(2), 1);
        due("28 blanks may be left out", land(x, "sun;post3 4;granny at5shade6cover7dusk8"), 3);
        due("28 sun", x.now(2), 0);
        due("28 shade", x.of(6, 2) * 100 + x.of(6, 3) * 10 + x.of(6, 4), 678);
        due("28 behind blanks", land(x, "sun   "), 1);
        due("28 zeros ahead", land(x, "post 0000015 0000000000000000000000000000000007"), 1);
        due("28 post", x.placeOf(15, 0), 7);
        due("28 no finding", x.status(-1), 0);
    }

    private static void p28LandFaults() {
        String[] texts = {"", "   ", ";", "sun;", "sun; ", "sun sun", "sun 5", "sun;;sun", "5", "at 5", "shade 5",
            "Sun", "sunny", "suN", "clouds!", "carrier", "carrier 5", "carrier at", "carrier at x", "carrier at 16",
            "carrier at 5 shade", "carrier at 5 shade 100", "carrier at 5 shade 99 shade 1",
            "carrier at 5 cover 10", "carrier at 5 cover 1 shade 1", "carrier at 5 dusk 10",
            "carrier at 5 dusk 1 cover 1", "carrier at 5 5", "carrier at 5 at", "post", "post 16 1", "post 15",
            "post 15 10", "post 15;", "post 1 2 3", "price 1 100", "price 16 100", "price 1 1000", "price 1 99999999999",
            "carrierat 5", "post 4294967296 1", "sun\tclouds", "sun,clouds", "post 1 -1", "carriers at 5",
            "nun", "sunz", "asun", "carrier at;", "carrier;", "carrier at 5 cover", "carrier at 5 dusk", "carrier at 5 cover;",
            "carrier at 5 dusk ;", "post ;", "price 5 ; sun"};
        int[] places = {0, 3, 0, 4, 5, 4, 4, 4, 0, 0, 0,
            0, 0, 0, 6, 7, 8, 10, 11, 11,
            18, 19, 22,
            19, 21, 18,
            20, 13, 13, 4, 5, 7,
            8, 7, 9, 8, 6, 8, 8,
            0, 5, 3, 3, 7, 0,
            0, 0, 0, 10, 7, 18, 17, 18,
            18, 5, 8};
        for (int i = 0; i < texts.length; i++) {
            ShadeCarpets x = new ShadeCarpets();
            due("28 fault of '" + texts[i] + "'", land(x, texts[i]), -1 - places[i]);
            due("28 tape is empty", x.count(1), 0);
            due("28 no finding", x.status(-1), 0);
            due("28 nothing came", x.count(0) + x.count(2) + x.count(3) + x.now(2), 160);
        }
        ShadeCarpets x = new ShadeCarpets();
        due("28 nothing of what is ahead of a fault", land(x, "carrier at 1;post 1 1;price 1 1;clouds;sand"), -40);
        due("28 nothing came", x.count(0) + x.count(2) + x.count(3) + x.now(2), 160);
    }

    private static void p28LandNinth() {
        ShadeCarpets x = new ShadeCarpets();
        for (int i = 0; i < 7; i++) {
            x.carrier(0, 0);
        }
        due("28 a 9th", land(x, "granny at 1; bride at 2"), -14);
        due("28 nothing came", x.count(0), 7);
        due("28 an 8th", land(x, "granny at 1"), 1);
        due("28 the 9th's own place, not a later fault", land(x, "clouds;bride 2"), -8);
        due("28 the 9th's own place", land(x, "clouds; bride"), -9);
        due("28 no finding", x.status(-1), 0);
    }

    private static void p28LandTape() {
        ShadeCarpets x = new ShadeCarpets();
        String suns = "sun;".repeat(28);
        due("28 120 bytes, ending too early", land(x, suns + "sun;sun;"), -121);
        due("28 120 bytes, ending in a word", land(x, suns + " sun;sun"), 30);
        due("28 120 bytes, ending in a number", land(x, suns + "post 1 2"), 29);
        due("28 120 bytes, ending in a blank", land(x, suns + "clouds  "), 29);
        due("28 120 bytes, all blank", land(x, " ".repeat(120)), -121);
        due("28 what a longer tape had is gone: blanks", land(x, "sun;"), -5);
        due("28 a longer one", land(x, "post 1 15"), -8);
        due("28 what a longer tape had is gone: digits", land(x, "post 1 1"), 1);
        due("28 a longer one", land(x, "sunny"), -1);
        due("28 what a longer tape had is gone: letters", land(x, "sun"), 1);
    }

    private static void p29Sheet() {
        ShadeCarpets x = new ShadeCarpets();
        due("29 n", x.sheet(0, 8, 40), 40);
        due("29 n", x.sheet(3, 64, 0), 0);
        x.write(0, 39, 7);
        due("29 all 0 again", x.sheet(0, 8, 40), 40);
        due("29 all 0", x.write(0, 39, 1), 0);
        due("29 missing", x.sheet(0, 0, 5), 0);
        due("29 is missing", x.write(0, 0, 1), MISSING);
        due("29 fewer", x.sheet(0, 16, 1), 1);
        due("29 one alone", x.write(0, 1, 1), BEYOND);
        due("29 beyond", x.sheet(-1, 8, 1), BEYOND);
        due("29 beyond", x.sheet(4, 8, 1), BEYOND);
        due("29 beyond", x.sheet(0, 32, 1), BEYOND);
        due("29 beyond", x.sheet(0, -8, 1), BEYOND);
        due("29 other bits before size", x.sheet(0, 7, -1), BEYOND);
        due("29 no such sheet before size", x.sheet(4, 8, -1), BEYOND);
        due("29 size", x.sheet(0, 8, -1), SIZE);
        due("29 size", x.sheet(0, 64, LOW), SIZE);
        due("29 size with bits 0", x.sheet(0, 0, -1), SIZE);
        due("29 beyond", x.sheet(0, 8, 41), BEYOND);
        due("29 beyond with bits 0", x.sheet(0, 0, 41), BEYOND);
        due("29 it stands", x.write(0, 0, 1), 0);
    }

    private static void p30Write() {
        ShadeCarpets x = new ShadeCarpets();
        x.sheet(0, 8, 2);
        x.sheet(1, 16, 2);
        x.sheet(2, 64, 2);
        long v = 0x123456789ABCDEF7L;
        for (int s = 0; s < 3; s++) {
            due("30 was 0", x.write(s, 1, v), 0);
            due("30 the other", x.write(s, 0, 5), 0);
        }
        due("30 8 bits", x.write(0, 1, 256 + 65), (byte) v);
        due("30 8 bits", x.write(0, 1, 0), 65);
        due("30 16 bits", x.write(1, 1, 65536 + 300), (short) v);
        due("30 16 bits", x.write(1, 1, 0), 300);
        due("30 64 bits", x.write(2, 1, Long.MIN_VALUE), v);
        due("30 64 bits", x.write(2, 1, 0), Long.MIN_VALUE);
        due("30 the other", x.write(2, 0, 5), 5);
        due("30 beyond", x.write(0, 2, 0), BEYOND);
        due("30 beyond", x.write(0, -1, 0), BEYOND);
        due("30 beyond", x.write(0, HIGH, 0), BEYOND);
        due("30 beyond", x.write(4, 0, 0), BEYOND);
        due("30 beyond", x.write(-1, 0, 0), BEYOND);
        due("30 missing before no such number", x.write(3, 99, 0), MISSING);
        int findings = x.status(-1);
        due("30 a number like a finding", x.write(2, 0, BEYOND), 5);
        due("30 a number like a finding", x.write(2, 0, 0), BEYOND);
        due("30 and is none", x.status(-1), findings);
    }

    private static void p31Copy() {
        ShadeCarpets x = new ShadeCarpets();
        x.sheet(0, 8, 6);
        x.sheet(1, 8, 3);
        x.sheet(2, 16, 6);
        for (int i = 0; i < 6; i++) {
            x.write(0, i, i + 1);
        }
        due("31 n", x.copy(0, 3, 1, 0, 3), 3);
        for (int i = 0; i < 3; i++) {
            due("31 came", x.write(1, i, 0), i + 4);
        }
        due("31 forth over itself", x.copy(0, 0, 0, 1, 5), 5);
        int[] forth = {1, 1, 2, 3, 4, 5};
        for (int i = 0; i < 6; i++) {
            due("31 as they all were", x.write(0, i, i + 1), forth[i]);
        }
        due("31 back over itself", x.copy(0, 2, 0, 0, 4), 4);
        int[] back = {3, 4, 5, 6, 5, 6};
        for (int i = 0; i < 6; i++) {
            due("31 as they all were", x.write(0, i, 9), back[i]);
        }
        due("31 none at the end", x.copy(0, 6, 1, 3, 0), 0);
        due("31 not so many", x.copy(0, 7, 1, 0, 0), BEYOND);
        due("31 not so many", x.copy(0, 0, 1, 4, 0), BEYOND);
        due("31 not so many", x.copy(0, 0, 1, 0, 4), BEYOND);
        due("31 not so many", x.copy(1, 1, 0, 0, 3), BEYOND);
        due("31 below 0", x.copy(0, -1, 1, 0, 1), BEYOND);
        due("31 below 0", x.copy(0, 0, 1, -1, 1), BEYOND);
        due("31 below 0", x.copy(0, 0, 1, 0, -1), BEYOND);
        due("31 far", x.copy(0, HIGH, 1, HIGH, HIGH), BEYOND);
        due("31 far", x.copy(0, 1, 1, 1, HIGH), BEYOND);
        due("31 kind", x.copy(0, 0, 2, 0, 1), KIND);
        due("31 kind before beyond", x.copy(0, -1, 2, 0, 99), KIND);
        due("31 missing", x.copy(3, 0, 0, 0, 1), MISSING);
        due("31 missing before kind and beyond", x.copy(2, 0, 3, 0, -1), MISSING);
        due("31 no such sheet before missing", x.copy(3, 0, 4, 0, 1), BEYOND);
        due("31 no such sheet before missing", x.copy(-1, 0, 3, 0, 1), BEYOND);
        due("31 nothing came", x.write(1, 0, 0), 0);
    }

    private static void p32Lays() {
        ShadeCarpets x = new ShadeCarpets();
        x.sheet(0, 64, 18);
        long[] numbers = {0, 99, 100, -1, 50, 4294967297L, Long.MIN_VALUE, 7};
        for (int i = 0; i < numbers.length; i++) {
            x.write(0, i, numbers[i]);
        }
        for (int i = numbers.length; i < 18; i++) {
            x.write(0, i, 20 + i);
        }
        due("32 how many", x.lays(0), 12);
        int[] prices = {0, 99, 10, 10, 50, 10, 10, 7, 28, 29, 30, 31, 32, 33, 34, 35};
        for (int p = 0; p < 16; p++) {
            due("32 price of " + p, x.placeOf(p, 1), prices[p]);
        }
        x.sheet(1, 8, 0);
        due("32 none", x.lays(1), 0);
        due("32 missing", x.lays(2), MISSING);
        due("32 beyond", x.lays(4), BEYOND);
        due("32 beyond", x.lays(-1), BEYOND);
    }

    private static void p33Book() {
        ShadeCarpets x = new ShadeCarpets();
        one(x, 3, 0, 50, 0, 0);
        x.sheet(0, 8, 40);
        due("33 how many", x.book(0, 0), 40);
        for (int i = 0; i < 40; i++) {
            due("33 on " + i, x.write(0, i, 0), x.on(0, i));
        }
        x.sheet(0, 64, 2);
        x.place(0, 0, 9);
        due("33 how many", x.book(0, 0), 2);
        due("33 now", x.write(0, 0, 0), 50);
        due("33 found then", x.write(0, 1, 0), 0);
        due("33 nothing changes", x.of(0, 2) * 10 + x.now(0), 500);
        ShadeCarpets y = new ShadeCarpets();
        hours(y, 17);
        one(y, 0, 0, 50, 0, 0);
        y.sheet(0, 8, 4);
        y.book(0, 0);
        int[] book = {50, 49, 48, 48};
        for (int i = 0; i < 4; i++) {
            due("33 heats 7, 6 and 5 on", y.write(0, i, 0), book[i]);
        }
        x.sheet(1, 16, 0);
        due("33 none", x.book(1, 0), 0);
        due("33 beyond", x.book(0, 1), BEYOND);
        due("33 beyond", x.book(0, -1), BEYOND);
        due("33 missing before carrier", x.book(2, 9), MISSING);
        due("33 beyond", x.book(4, 0), BEYOND);
        due("33 beyond", x.book(-1, 0), BEYOND);
    }

    private static int readWay(ShadeCarpets x, long... places) {
        x.sheet(0, 64, places.length);
        for (int i = 0; i < places.length; i++) {
            x.write(0, i, places[i]);
        }
        return x.read(0, 0);
    }

    private static void p34Read() {
        ShadeCarpets x = new ShadeCarpets();
        one(x, 0, 5, 40, 0, 0);
        due("34 no hours", readWay(x), 0);
        due("34 a way", readWay(x, 5, 6, 7, 7, 3), 0);
        due("34 a way by 0 and 15", readWay(x, 4, 0, 1, 2, 3, 7, 11, 15), 0);
        x.place(6, 0, 1);
        x.set(0, 3, 2);
        hours(x, 5);
        x.set(0, 2, 35);
        due("34 8 and 3 and 1 at heat 9", readWay(x, 6, 6, 6, 6, 6), 4);
        x.set(0, 3, 0);
        x.set(0, 2, 40);
        x.place(6, 0, 0);
        due("34 from where it is", readWay(x, 7, 6), 1);
        due("34 not next", readWay(x, 4, 3), 2);
        due("34 no place", readWay(x, 5, 5, 16), 3);
        due("34 no place", readWay(x, -1), 1);
        due("34 no place", readWay(x, 5, 4294967296L + 5), 2);
        x.place(7, 0, 9);
        due("34 found", readWay(x, 6, 7, 3), 2);
        due("34 found when it stays", readWay(x, 6, 6, 6, 7), 4);
        x.place(5, 0, 9);
        due("34 it goes before the hour", readWay(x, 6, 6), 0);
        due("34 found where it is", readWay(x, 5, 6), 1);
        due("34 nothing changes", x.of(0, 1) * 100 + x.of(0, 2), 540);
        x.clouds(1);
        due("34 clouds", readWay(x, 5, 6, 7), 0);
        due("34 beyond", x.read(0, 1), BEYOND);
        due("34 beyond", x.read(0, -1), BEYOND);
        due("34 missing before carrier", x.read(3, 9), MISSING);
        due("34 beyond", x.read(4, 0), BEYOND);
        due("34 beyond", x.read(-1, 0), BEYOND);
    }

    private static void p35To37Images() {
        ShadeCarpets x = new ShadeCarpets();
        due("36 nothing kept", x.undo(), NONE);
        one(x, 4, 6, 40, 3, 2);
        x.set(0, 5, 77);
        x.place(2, 0, 3);
        x.place(2, 1, 44);
        x.hours(5);
        feed(x, "sun");
        x.sheet(0, 8, 1);
        due("35 image", x.image(), 1);
        x.turn(0, 0);
        x.go(0, 7);
        for (int w = 2; w < 6; w++) {
            x.set(0, w, 1);
        }
        x.carrier(1, 1);
        x.place(2, 0, 0);
        x.place(2, 1, 0);
        x.clouds(1);
        x.hours(3);
        x.feed(';', 1);
        x.write(0, 0, 5);
        for (int again = 0; again < 2; again++) {
            due("36 carriers", x.undo(), 1);
            int[] all = {4, 6, 40, 3, 2, 77};
            for (int w = 0; w < 6; w++) {
                due("36 what " + w, x.of(0, w), all[w]);
            }
            due("36 post and price", x.placeOf(2, 0) * 100 + x.placeOf(2, 1), 344);
            due("36 hour", x.now(0), 5);
            due("36 clouds", x.now(2), 0);
            due("36 the tape stays", x.count(1), 4);
            due("36 a sheet stays", x.write(0, 0, 5), 5);
            due("36 findings stay", x.status(3), 1);
            x.set(0, 2, 9);
            x.carrier(1, 1);
        }
        due("35 the latest", x.image(), 1);
        x.carrier(0, 0);
        due("36 the latest", x.undo(), 2);
        due("37 something", x.tear(), 1);
        due("37 nothing", x.tear(), 0);
        due("36 nothing kept", x.undo(), NONE);
        due("36 nothing changes", x.count(0), 2);
        due("35 again", x.image(), 1);
        due("36 again", x.undo(), 2);
    }

    private static void p38Count() {
        ShadeCarpets x = new ShadeCarpets();
        x.carrier(0, 0);
        x.carrier(0, 0);
        feed(x, "abc");
        x.place(0, 0, 9);
        x.place(1, 0, 9);
        x.place(2, 0, 1);
        x.place(15, 0, 1);
        x.place(15, 1, 99);
        int[] all = {2, 3, 4, 249};
        for (int w = 0; w < 4; w++) {
            due("38 what " + w, x.count(w), all[w]);
        }
        due("38 beyond", x.count(4), BEYOND);
        due("38 beyond", x.count(-1), BEYOND);
    }

    private static void p39Status() {
        ShadeCarpets x = new ShadeCarpets();
        due("39 beyond", x.status(7), BEYOND);
        due("39 counted from then on", x.status(-1), 1);
        due("39 beyond", x.status(-2), BEYOND);
        due("39 beyond", x.status(0), 2);
        for (int i = 0; i < 8; i++) {
            x.carrier(0, 0);
        }
        x.carrier(0, 0);
        x.image();
        for (int i = 0; i < 2; i++) {
            x.as(0, 1);
        }
        for (int i = 0; i < 3; i++) {
            x.found(0);
        }
        for (int i = 0; i < 4; i++) {
            x.go(0, 0);
        }
        for (int i = 0; i < 5; i++) {
            x.write(0, 0, 0);
        }
        for (int i = 0; i < 6; i++) {
            x.sheet(0, 8, -1);
        }
        x.undo();
        land(x, "sand");
        int[] all = {2, 1, 2, 3, 4, 5, 6};
        for (int w = 0; w < 7; w++) {
            due("39 which " + w, x.status(w), all[w]);
        }
        due("39 all", x.status(-1), 23);
    }
}
