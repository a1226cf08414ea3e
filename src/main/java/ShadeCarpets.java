import java.util.Arrays;

/** A land where shade is smuggled: places with posts, hours with heats, carriers with rolls of shade. */
public final class ShadeCarpets {
    private static final int BEYOND = -1000000001;
    private static final int FULL = -1000000002;
    private static final int KIND = -1000000003;
    private static final int NONE = -1000000004;
    private static final int STATE = -1000000005;
    private static final int MISSING = -1000000006;
    private static final int SIZE = -1000000007;
    private static final int FINDINGS = 7;

    private static final int PLACES = 16;
    private static final int MOST_POST = 9;
    private static final int MOST_PRICE = 99;
    private static final int MOST_CARRIERS = 8;
    private static final int KINDS = 6;
    private static final int MOST_SHADE = 99;
    private static final int MOST_COVER = 9;
    private static final int MOST_DUSK = 9;
    private static final int MOST_CASH = 999999;
    private static final int LAST_HOUR = 99999;

    private static final int ON_HOURS = 60;
    private static final int WAY_HOURS = 48;
    private static final int STAY_HOURS = 23;
    private static final int NEVER = WAY_HOURS + 1;

    private static final int TAPE_BYTES = 120;
    private static final int SHEETS = 4;
    private static final int SHEET_NUMBERS = 40;

    private final Kind[] kinds = new Kind[KINDS];
    private final Land state;
    private final Land kept;
    /** A text's items come here first, so that a fault leaves the state as it was. */
    private final Land draft;
    private boolean somethingKept;
    private final Way way;
    /** What goes on in thought only goes on with this one. */
    private final Carrier ghost;
    private final Tape tape;
    private final Sheet[] sheets = new Sheet[SHEETS];
    private final int[] findings = new int[FINDINGS];

    public ShadeCarpets() {
        Kind plain = new Kind(0, "carrier", null);
        Kind granny = new Granny(1, "granny", plain);
        Kind dealer = new Dealer(2, "dealer", plain);
        kinds[0] = plain;
        kinds[1] = granny;
        kinds[2] = dealer;
        kinds[3] = new Caravan(3, "caravan", plain);
        kinds[4] = new Bride(4, "bride", granny);
        kinds[5] = new Priest(5, "priest", dealer);
        state = new Land(plain);
        kept = new Land(plain);
        draft = new Land(plain);
        way = new Way(plain);
        ghost = new Carrier(plain);
        tape = new Tape();
        for (int s = 0; s < SHEETS; s++) {
            sheets[s] = new Sheet();
        }
    }

    // ---- the land

    public int place(int place, int what, int v) {
        if (!isPlace(place)) {
            return finding(BEYOND);
        }
        if (what == 0 && within(v, MOST_POST)) {
            int was = state.posts[place];
            state.posts[place] = v;
            return was;
        }
        if (what == 1 && within(v, MOST_PRICE)) {
            int was = state.prices[place];
            state.prices[place] = v;
            return was;
        }
        return finding(BEYOND);
    }

    public int placeOf(int place, int what) {
        if (!isPlace(place)) {
            return finding(BEYOND);
        }
        switch (what) {
            case 0: return state.posts[place];
            case 1: return state.prices[place];
            case 2: return state.carriersAt(place);
            case 3: return nextTo(place);
            default: return finding(BEYOND);
        }
    }

    public int clouds(int v) {
        if (!within(v, 1)) {
            return finding(BEYOND);
        }
        int were = state.clouds;
        state.clouds = v;
        return were;
    }

    public int heat(int hour) {
        return within(hour, LAST_HOUR) ? heatAt(hour) : finding(BEYOND);
    }

    // ---- carriers

    public int carrier(int kind, int place) {
        if (!isKind(kind) || !isPlace(place)) {
            return finding(BEYOND);
        }
        if (state.isFull()) {
            return finding(FULL);
        }
        return state.addCarrier(kinds[kind], place);
    }

    public int of(int carrier, int what) {
        if (!isCarrier(carrier)) {
            return finding(BEYOND);
        }
        Carrier one = state.carriers[carrier];
        switch (what) {
            case 0: return one.kind.number;
            case 1: return one.place;
            case 2: return one.shade;
            case 3: return one.cover;
            case 4: return one.dusk;
            case 5: return one.cash;
            case 6: return one.kind.coolness(one, state.hour);
            case 7: return one.kind.fading(one, heatAt(state.hour));
            case 8: return state.worthWhereItIs(one);
            case 9: return state.finds(one, state.hour) ? 1 : 0;
            default: return finding(BEYOND);
        }
    }

    public int set(int carrier, int what, int v) {
        if (!isCarrier(carrier) || !mayBe(what, v)) {
            return finding(BEYOND);
        }
        Carrier one = state.carriers[carrier];
        int was;
        switch (what) {
            case 2:
                was = one.shade;
                one.shade = v;
                return was;
            case 3:
                was = one.cover;
                one.cover = v;
                return was;
            case 4:
                was = one.dusk;
                one.dusk = v;
                return was;
            default:
                was = one.cash;
                one.cash = v;
                return was;
        }
    }

    public int turn(int carrier, int kind) {
        if (!isCarrier(carrier) || !isKind(kind)) {
            return finding(BEYOND);
        }
        Carrier one = state.carriers[carrier];
        int was = one.kind.number;
        one.kind = kinds[kind];
        return was;
    }

    public int as(int carrier, int kind) {
        if (!isCarrier(carrier) || !isKind(kind)) {
            return finding(BEYOND);
        }
        Carrier one = state.carriers[carrier];
        return one.kind.isUnder(kinds[kind]) ? one.shade : finding(KIND);
    }

    public int go(int carrier, int place) {
        if (!isCarrier(carrier) || !isPlace(place)) {
            return finding(BEYOND);
        }
        Carrier one = state.carriers[carrier];
        if ((nextTo(one.place) & (1 << place)) == 0) {
            return finding(STATE);
        }
        one.place = place;
        return one.shade;
    }

    public int sell(int carrier) {
        if (!isCarrier(carrier)) {
            return finding(BEYOND);
        }
        Carrier one = state.carriers[carrier];
        if (one.shade == 0) {
            return finding(STATE);
        }
        int got = state.worthWhereItIs(one);
        one.shade = 0;
        one.cash = Math.min(MOST_CASH, one.cash + got);
        return got;
    }

    public int hours(int n) {
        if (n < 1 || n > ON_HOURS) {
            return finding(BEYOND);
        }
        if (state.hour + n > LAST_HOUR) {
            return finding(STATE);
        }
        for (int i = 0; i < n; i++) {
            state.letAnHourGo();
        }
        return state.shadeOfAll();
    }

    public int now(int what) {
        switch (what) {
            case 0: return state.hour;
            case 1: return heatAt(state.hour);
            case 2: return state.clouds;
            case 3: return state.shadeOfAll();
            case 4: return state.cashOfAll();
            case 5: return state.withShade();
            case 6: return state.withPost();
            default: return finding(BEYOND);
        }
    }

    public int on(int carrier, int n) {
        if (!isCarrier(carrier) || !within(n, ON_HOURS)) {
            return finding(BEYOND);
        }
        ghost.become(state.carriers[carrier]);
        for (int i = 0; i < n; i++) {
            state.passHour(ghost, state.hour + i);
        }
        return ghost.shade;
    }

    public int found(int carrier) {
        if (!isCarrier(carrier)) {
            return finding(BEYOND);
        }
        int hours = hoursUntilFound(state.carriers[carrier]);
        return hours > ON_HOURS ? finding(NONE) : hours;
    }

    public int firstFound() {
        int first = NONE;
        int fewest = ON_HOURS + 1;
        for (int i = 0; i < state.count; i++) {
            int hours = hoursUntilFound(state.carriers[i]);
            if (hours < fewest) {
                fewest = hours;
                first = i;
            }
        }
        return first == NONE ? finding(NONE) : first;
    }

    // ---- what is best

    public int soonest(int carrier, int place) {
        if (!isCarrier(carrier) || !isPlace(place)) {
            return finding(BEYOND);
        }
        way.begin(state, state.carriers[carrier], state.hour);
        int hours = way.hoursTo(place);
        return hours == NEVER ? finding(NONE) : hours;
    }

    public int reach(int carrier, int n) {
        if (!isCarrier(carrier) || !within(n, WAY_HOURS)) {
            return finding(BEYOND);
        }
        way.begin(state, state.carriers[carrier], state.hour);
        for (int i = 0; i < n; i++) {
            way.passHour();
        }
        return way.reached;
    }

    public int cover(int carrier, int place, int n) {
        if (!isCarrier(carrier) || !isPlace(place) || !within(n, WAY_HOURS)) {
            return finding(BEYOND);
        }
        for (int c = 0; c <= MOST_COVER; c++) {
            way.begin(state, state.carriers[carrier], state.hour);
            way.walker.cover = c;
            if (way.hoursTo(place) <= n) {
                return c;
            }
        }
        return finding(NONE);
    }

    public int best(int carrier, int n) {
        if (!isCarrier(carrier) || !within(n, WAY_HOURS)) {
            return finding(BEYOND);
        }
        way.begin(state, state.carriers[carrier], state.hour);
        way.seekBest(state, n);
        return way.bestWorth;
    }

    public int where(int carrier, int n) {
        if (!isCarrier(carrier) || !within(n, WAY_HOURS)) {
            return finding(BEYOND);
        }
        way.begin(state, state.carriers[carrier], state.hour);
        way.seekBest(state, n);
        return way.bestSpot;
    }

    public int post(int carrier, int place) {
        if (!isCarrier(carrier) || !isPlace(place)) {
            return finding(BEYOND);
        }
        Carrier one = state.carriers[carrier];
        way.begin(state, one, state.hour);
        int fewest = way.hoursTo(place);
        int taken = NONE;
        for (int p = 0; p < PLACES; p++) {
            if (state.posts[p] == 0) {
                continue;
            }
            way.begin(state, one, state.hour);
            way.spare(p);
            int hours = way.hoursTo(place);
            if (hours < fewest) {
                fewest = hours;
                taken = p;
            }
        }
        return taken == NONE ? finding(NONE) : taken;
    }

    public int kind(int carrier, int n) {
        if (!isCarrier(carrier) || !within(n, WAY_HOURS)) {
            return finding(BEYOND);
        }
        int most = -1;
        int bestKind = 0;
        for (int k = 0; k < KINDS; k++) {
            way.begin(state, state.carriers[carrier], state.hour);
            way.walker.kind = kinds[k];
            way.seekBest(state, n);
            if (way.bestWorth > most) {
                most = way.bestWorth;
                bestKind = k;
            }
        }
        return bestKind;
    }

    public int depart(int carrier, int place) {
        if (!isCarrier(carrier) || !isPlace(place)) {
            return finding(BEYOND);
        }
        ghost.become(state.carriers[carrier]);
        int fewest = NEVER;
        int stay = NONE;
        for (int i = 0; i <= STAY_HOURS; i++) {
            way.begin(state, ghost, state.hour + i);
            int hours = way.hoursTo(place);
            if (hours < fewest) {
                fewest = hours;
                stay = i;
            }
            if (state.passHour(ghost, state.hour + i)) {
                break;
            }
        }
        return stay == NONE ? finding(NONE) : stay;
    }

    // ---- the text

    public int feed(int bytes, int n) {
        if (n < 1 || n > 4) {
            return finding(BEYOND);
        }
        if (tape.length + n > TAPE_BYTES) {
            return finding(FULL);
        }
        for (int i = n - 1; i >= 0; i--) {
            tape.append((bytes >>> (8 * i)) & 255);
        }
        return tape.length;
    }

    public int wipe() {
        int had = tape.length;
        tape.length = 0;
        return had;
    }

    public int land() {
        draft.become(state);
        int items = tape.tellTo(draft, kinds);
        tape.length = 0;
        if (items > 0) {
            state.become(draft);
        }
        return items;
    }

    // ---- sheets

    public int sheet(int s, int bits, int n) {
        if (!isSheet(s) || (bits != 0 && bits != 8 && bits != 16 && bits != 64)) {
            return finding(BEYOND);
        }
        if (n < 0) {
            return finding(SIZE);
        }
        if (n > SHEET_NUMBERS) {
            return finding(BEYOND);
        }
        sheets[s].layOut(bits, bits == 0 ? 0 : n);
        return sheets[s].size;
    }

    public long write(int s, int i, long v) {
        if (!isSheet(s)) {
            return finding(BEYOND);
        }
        Sheet sheet = sheets[s];
        if (sheet.isMissing()) {
            return finding(MISSING);
        }
        if (i < 0 || i >= sheet.size) {
            return finding(BEYOND);
        }
        long was = sheet.numbers[i];
        sheet.numbers[i] = sheet.lowestBits(v);
        return was;
    }

    public int copy(int s, int from, int t, int to, int n) {
        if (!isSheet(s) || !isSheet(t)) {
            return finding(BEYOND);
        }
        Sheet source = sheets[s];
        Sheet target = sheets[t];
        if (source.isMissing() || target.isMissing()) {
            return finding(MISSING);
        }
        if (source.bits != target.bits) {
            return finding(KIND);
        }
        if (!source.hasRun(from, n) || !target.hasRun(to, n)) {
            return finding(BEYOND);
        }
        System.arraycopy(source.numbers, from, target.numbers, to, n);
        return n;
    }

    public int lays(int s) {
        if (!isSheet(s)) {
            return finding(BEYOND);
        }
        Sheet sheet = sheets[s];
        if (sheet.isMissing()) {
            return finding(MISSING);
        }
        int came = 0;
        for (int i = 0; i < sheet.size && i < PLACES; i++) {
            long price = sheet.numbers[i];
            if (price >= 0 && price <= MOST_PRICE) {
                state.prices[i] = (int) price;
                came++;
            }
        }
        return came;
    }

    public int book(int s, int carrier) {
        if (!isSheet(s)) {
            return finding(BEYOND);
        }
        Sheet sheet = sheets[s];
        if (sheet.isMissing()) {
            return finding(MISSING);
        }
        if (!isCarrier(carrier)) {
            return finding(BEYOND);
        }
        ghost.become(state.carriers[carrier]);
        for (int i = 0; i < sheet.size; i++) {
            sheet.numbers[i] = ghost.shade;
            state.passHour(ghost, state.hour + i);
        }
        return sheet.size;
    }

    public int read(int s, int carrier) {
        if (!isSheet(s)) {
            return finding(BEYOND);
        }
        Sheet sheet = sheets[s];
        if (sheet.isMissing()) {
            return finding(MISSING);
        }
        if (!isCarrier(carrier)) {
            return finding(BEYOND);
        }
        ghost.become(state.carriers[carrier]);
        for (int i = 0; i < sheet.size; i++) {
            long place = sheet.numbers[i];
            if (place < 0 || place >= PLACES || (spread(1 << ghost.place) & (1 << (int) place)) == 0) {
                return i + 1;
            }
            ghost.place = (int) place;
            if (state.passHour(ghost, state.hour + i)) {
                return i + 1;
            }
        }
        return 0;
    }

    // ---- images

    public int image() {
        kept.become(state);
        somethingKept = true;
        return 1;
    }

    public int undo() {
        if (!somethingKept) {
            return finding(NONE);
        }
        state.become(kept);
        return state.count;
    }

    public int tear() {
        int was = somethingKept ? 1 : 0;
        somethingKept = false;
        return was;
    }

    public int count(int what) {
        switch (what) {
            case 0: return state.count;
            case 1: return tape.length;
            case 2: return Integer.bitCount(state.withPost());
            case 3: return state.pricesOfAll();
            default: return finding(BEYOND);
        }
    }

    public int status(int which) {
        if (which < -1 || which >= FINDINGS) {
            return finding(BEYOND);
        }
        if (which >= 0) {
            return findings[which];
        }
        int all = 0;
        for (int i = 0; i < FINDINGS; i++) {
            all += findings[i];
        }
        return all;
    }

    // ---- what the acts share

    private int finding(int code) {
        int which = BEYOND - code;
        if (which >= 0 && which < FINDINGS) {
            findings[which]++;
        }
        return code;
    }

    private boolean isCarrier(int carrier) {
        return carrier >= 0 && carrier < state.count;
    }

    private static boolean isPlace(int place) {
        return place >= 0 && place < PLACES;
    }

    private static boolean isKind(int kind) {
        return kind >= 0 && kind < KINDS;
    }

    private static boolean isSheet(int s) {
        return s >= 0 && s < SHEETS;
    }

    private static boolean within(int v, int most) {
        return v >= 0 && v <= most;
    }

    private static boolean mayBe(int what, int v) {
        switch (what) {
            case 2: return within(v, MOST_SHADE);
            case 3: return within(v, MOST_COVER);
            case 4: return within(v, MOST_DUSK);
            case 5: return within(v, MOST_CASH);
            default: return false;
        }
    }

    private static int heatAt(int hour) {
        return 12 - Math.abs(Math.floorMod(hour, 24) - 12);
    }

    /** The places of a set and those next to one of them: 4 bits are a row, 0x1111 is the first column. */
    private static int spread(int places) {
        int sides = ((places & ~0x8888) << 1) | ((places & ~0x1111) >>> 1);
        return (places | sides | (places << 4) | (places >>> 4)) & 0xFFFF;
    }

    private static int nextTo(int place) {
        return spread(1 << place) & ~(1 << place);
    }

    /** Above ON_HOURS if it is found in none of them. */
    private int hoursUntilFound(Carrier one) {
        ghost.become(one);
        for (int i = 0; i < ON_HOURS; i++) {
            if (state.passHour(ghost, state.hour + i)) {
                return i + 1;
            }
        }
        return ON_HOURS + 1;
    }

    /** The kind CARRIER, and what the kinds under it have from it. */
    private static class Kind {
        final int number;
        final String name;
        final Kind above;

        Kind(int number, String name, Kind above) {
            this.number = number;
            this.name = name;
            this.above = above;
        }

        boolean isUnder(Kind other) {
            for (Kind k = this; k != null; k = k.above) {
                if (k == other) {
                    return true;
                }
            }
            return false;
        }

        int coolness(Carrier one, int hour) {
            return one.shade / 4;
        }

        int fading(Carrier one, int heat) {
            return heat / 6;
        }

        int worth(Carrier one, int price) {
            return one.shade * price;
        }
    }

    private static class Granny extends Kind {
        Granny(int number, String name, Kind above) {
            super(number, name, above);
        }

        int coolness(Carrier one, int hour) {
            return super.coolness(one, hour) / 2;
        }
    }

    private static class Dealer extends Kind {
        Dealer(int number, String name, Kind above) {
            super(number, name, above);
        }

        int coolness(Carrier one, int hour) {
            return Math.max(0, super.coolness(one, hour) - one.dusk);
        }

        int fading(Carrier one, int heat) {
            return super.fading(one, heat) + (one.dusk > 4 ? 1 : 0);
        }

        int worth(Carrier one, int price) {
            return super.worth(one, price) + price * one.dusk;
        }
    }

    private static final class Caravan extends Kind {
        Caravan(int number, String name, Kind above) {
            super(number, name, above);
        }

        int coolness(Carrier one, int hour) {
            return one.shade / 2;
        }

        int fading(Carrier one, int heat) {
            return super.fading(one, heat) + 1;
        }

        int worth(Carrier one, int price) {
            return super.worth(one, price) / 2;
        }
    }

    private static final class Bride extends Granny {
        Bride(int number, String name, Kind above) {
            super(number, name, above);
        }

        int coolness(Carrier one, int hour) {
            return Math.max(0, super.coolness(one, hour) - 2);
        }

        int fading(Carrier one, int heat) {
            return Math.max(0, super.fading(one, heat) - 1);
        }

        int worth(Carrier one, int price) {
            return super.worth(one, price) + (one.shade >= 30 ? 50 : 0);
        }
    }

    private static final class Priest extends Dealer {
        Priest(int number, String name, Kind above) {
            super(number, name, above);
        }

        int coolness(Carrier one, int hour) {
            return hour % 7 == 0 ? 0 : super.coolness(one, hour);
        }

        int worth(Carrier one, int price) {
            return 0;
        }
    }

    private static final class Carrier {
        Kind kind;
        int place;
        int shade;
        int cover;
        int dusk;
        int cash;

        Carrier(Kind kind) {
            this.kind = kind;
        }

        void become(Carrier other) {
            kind = other.kind;
            place = other.place;
            shade = other.shade;
            cover = other.cover;
            dusk = other.dusk;
            cash = other.cash;
        }

        void start(Kind itsKind, int itsPlace) {
            kind = itsKind;
            place = itsPlace;
            shade = 20;
            cover = 0;
            dusk = 0;
            cash = 0;
        }

        void fadeIn(int hour) {
            shade = Math.max(0, shade - kind.fading(this, heatAt(hour)));
        }

        /** The least post (1 at least) that finds it at an hour; one above all posts if none does. */
        int leastPostThatFinds(int hour) {
            if (shade == 0) {
                return MOST_POST + 1;
            }
            int least = 9 + cover - kind.coolness(this, hour) - heatAt(hour) / 3 + 1;
            return Math.max(1, Math.min(MOST_POST + 1, least));
        }
    }

    /** All that an image keeps. */
    private static final class Land {
        final int[] posts = new int[PLACES];
        final int[] prices = new int[PLACES];
        final Carrier[] carriers = new Carrier[MOST_CARRIERS];
        int count;
        int hour;
        int clouds;

        Land(Kind plain) {
            Arrays.fill(prices, 10);
            for (int i = 0; i < MOST_CARRIERS; i++) {
                carriers[i] = new Carrier(plain);
            }
        }

        void become(Land other) {
            System.arraycopy(other.posts, 0, posts, 0, PLACES);
            System.arraycopy(other.prices, 0, prices, 0, PLACES);
            count = other.count;
            for (int i = 0; i < count; i++) {
                carriers[i].become(other.carriers[i]);
            }
            hour = other.hour;
            clouds = other.clouds;
        }

        boolean isFull() {
            return count >= MOST_CARRIERS;
        }

        /** Only where the land is not full. */
        int addCarrier(Kind kind, int place) {
            carriers[count].start(kind, place);
            count++;
            return count - 1;
        }

        boolean finds(Carrier one, int atHour) {
            return clouds == 0 && posts[one.place] >= one.leastPostThatFinds(atHour);
        }

        /** One hour goes for one alone: whether it is found at its end. */
        boolean passHour(Carrier one, int fromHour) {
            one.fadeIn(fromHour);
            if (!finds(one, fromHour + 1)) {
                return false;
            }
            one.shade = 0;
            return true;
        }

        void letAnHourGo() {
            for (int i = 0; i < count; i++) {
                passHour(carriers[i], hour);
            }
            hour++;
        }

        int worthWhereItIs(Carrier one) {
            return one.kind.worth(one, prices[one.place]);
        }

        int carriersAt(int place) {
            int all = 0;
            for (int i = 0; i < count; i++) {
                if (carriers[i].place == place) {
                    all |= 1 << i;
                }
            }
            return all;
        }

        int shadeOfAll() {
            int all = 0;
            for (int i = 0; i < count; i++) {
                all += carriers[i].shade;
            }
            return all;
        }

        int cashOfAll() {
            int all = 0;
            for (int i = 0; i < count; i++) {
                all += carriers[i].cash;
            }
            return all;
        }

        int withShade() {
            int all = 0;
            for (int i = 0; i < count; i++) {
                if (carriers[i].shade > 0) {
                    all |= 1 << i;
                }
            }
            return all;
        }

        int withPost() {
            int all = 0;
            for (int p = 0; p < PLACES; p++) {
                if (posts[p] > 0) {
                    all |= 1 << p;
                }
            }
            return all;
        }

        int pricesOfAll() {
            int all = 0;
            for (int p = 0; p < PLACES; p++) {
                all += prices[p];
            }
            return all;
        }
    }

    /**
     * All free ways of one at once. A free way never loses shade to a post, so the shade then
     * hangs on the hours alone, and a set of places tells all that the ways can have come to.
     */
    private static final class Way {
        final Carrier walker;
        /** By a least post: the places with that post or a stricter one. */
        final int[] guarded = new int[MOST_POST + 2];
        int spared;
        int hour;
        int reached;
        int bestWorth;
        int bestSpot;

        Way(Kind plain) {
            walker = new Carrier(plain);
        }

        void begin(Land land, Carrier one, int fromHour) {
            walker.become(one);
            hour = fromHour;
            reached = 1 << one.place;
            spared = 0;
            Arrays.fill(guarded, 0);
            if (land.clouds != 0) {
                return;
            }
            for (int p = 0; p < PLACES; p++) {
                for (int least = 1; least <= land.posts[p] && least <= MOST_POST; least++) {
                    guarded[least] |= 1 << p;
                }
            }
        }

        void spare(int place) {
            spared = 1 << place;
        }

        void passHour() {
            walker.fadeIn(hour);
            hour++;
            int unfree = guarded[walker.leastPostThatFinds(hour)] & ~spared;
            reached = spread(reached) & ~unfree;
        }

        int hoursTo(int place) {
            for (int hours = 0; hours <= WAY_HOURS; hours++) {
                if ((reached & (1 << place)) != 0) {
                    return hours;
                }
                passHour();
            }
            return NEVER;
        }

        void seekBest(Land land, int n) {
            bestWorth = -1;
            for (int hours = 0; hours <= n; hours++) {
                if (hours > 0) {
                    passHour();
                }
                for (int p = 0; p < PLACES; p++) {
                    if ((reached & (1 << p)) != 0) {
                        weigh(land.prices[p], 100 * hours + p);
                    }
                }
            }
        }

        /** Without shade nothing is sold, so even a dealer's dusk is worth nothing then. */
        private void weigh(int price, int spot) {
            int worth = walker.shade == 0 ? 0 : walker.kind.worth(walker, price);
            if (worth > bestWorth) {
                bestWorth = worth;
                bestSpot = spot;
            }
        }
    }

    /** The bytes of a text, its tokens one after another, and its items. */
    private static final class Tape {
        private static final int END = 0;
        private static final int WORD = 1;
        private static final int NUMBER = 2;
        private static final int SEMICOLON = 3;
        private static final int STRANGE = 4;

        final int[] bytes = new int[TAPE_BYTES];
        int length;
        /** The token that comes next: its sort, its bytes from start to before end, its number. */
        int token;
        int start;
        int end;
        int number;

        void append(int b) {
            if (length < TAPE_BYTES) {
                bytes[length] = b;
                length++;
            }
        }

        /** How many items came to a land, or -1 less the place of the fault. */
        int tellTo(Land draft, Kind[] kinds) {
            end = 0;
            advance();
            for (int items = 1; items <= TAPE_BYTES; items++) {
                if (!takeItem(draft, kinds)) {
                    break;
                }
                if (token == END) {
                    return items;
                }
                if (token != SEMICOLON) {
                    break;
                }
                advance();
            }
            return -1 - start;
        }

        /** Where an item can't go on, the token that comes next is the fault. */
        private boolean takeItem(Land draft, Kind[] kinds) {
            for (int k = 0; k < kinds.length; k++) {
                if (isWord(kinds[k].name)) {
                    return takeCarrier(draft, kinds[k]);
                }
            }
            if (isWord("post")) {
                return takeOfPlace(draft.posts, MOST_POST);
            }
            if (isWord("price")) {
                return takeOfPlace(draft.prices, MOST_PRICE);
            }
            if (isWord("clouds")) {
                draft.clouds = 1;
                advance();
                return true;
            }
            if (isWord("sun")) {
                draft.clouds = 0;
                advance();
                return true;
            }
            return false;
        }

        private boolean takeCarrier(Land draft, Kind kind) {
            if (draft.isFull()) {
                return false;
            }
            advance();
            if (!isWord("at")) {
                return false;
            }
            advance();
            if (!isNumber(PLACES - 1)) {
                return false;
            }
            Carrier one = draft.carriers[draft.addCarrier(kind, number)];
            advance();
            return takeTraits(one);
        }

        private boolean takeTraits(Carrier one) {
            if (isWord("shade")) {
                advance();
                if (!isNumber(MOST_SHADE)) {
                    return false;
                }
                one.shade = number;
                advance();
            }
            if (isWord("cover")) {
                advance();
                if (!isNumber(MOST_COVER)) {
                    return false;
                }
                one.cover = number;
                advance();
            }
            if (isWord("dusk")) {
                advance();
                if (!isNumber(MOST_DUSK)) {
                    return false;
                }
                one.dusk = number;
                advance();
            }
            return true;
        }

        private boolean takeOfPlace(int[] row, int most) {
            advance();
            if (!isNumber(PLACES - 1)) {
                return false;
            }
            int place = number;
            advance();
            if (!isNumber(most)) {
                return false;
            }
            row[place] = number;
            advance();
            return true;
        }

        private boolean isNumber(int most) {
            return token == NUMBER && number <= most;
        }

        private boolean isWord(String word) {
            if (token != WORD || end - start != word.length()) {
                return false;
            }
            for (int i = 0; i < word.length(); i++) {
                if (bytes[start + i] != word.charAt(i)) {
                    return false;
                }
            }
            return true;
        }

        private void advance() {
            start = end;
            while (start < length && bytes[start] == ' ') {
                start++;
            }
            end = start;
            if (start >= length) {
                token = END;
            } else if (isLetter(start)) {
                token = WORD;
                while (end < length && isLetter(end)) {
                    end++;
                }
            } else if (isDigit(start)) {
                token = NUMBER;
                takeDigits();
            } else {
                token = bytes[start] == ';' ? SEMICOLON : STRANGE;
                end = start + 1;
            }
        }

        /** A number above 999 may stand nowhere, so it is held at 1000 however long it is. */
        private void takeDigits() {
            number = 0;
            while (end < length && isDigit(end)) {
                number = Math.min(1000, number * 10 + bytes[end] - '0');
                end++;
            }
        }

        private boolean isLetter(int i) {
            return i >= 0 && i < length && bytes[i] >= 'a' && bytes[i] <= 'z';
        }

        private boolean isDigit(int i) {
            return i >= 0 && i < length && bytes[i] >= '0' && bytes[i] <= '9';
        }
    }

    private static final class Sheet {
        final long[] numbers = new long[SHEET_NUMBERS];
        int bits;
        int size;

        boolean isMissing() {
            return bits == 0;
        }

        void layOut(int itsBits, int itsSize) {
            bits = itsBits;
            size = itsSize;
            Arrays.fill(numbers, 0L);
        }

        /** Numbers bear signs at 8 and 16 bits as they do at 64. */
        long lowestBits(long v) {
            if (bits == 8) {
                return (byte) v;
            }
            return bits == 16 ? (short) v : v;
        }

        /** Whether it has n numbers from one on; in longs, for the sum of two ints may wrap. */
        boolean hasRun(int from, int n) {
            return from >= 0 && n >= 0 && (long) from + n <= size;
        }
    }
}
