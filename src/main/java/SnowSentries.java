import java.util.Arrays;

/** Sentries of snow along a border; what each call answers is told by DOC.md, as numbered promises. */
public final class SnowSentries {
    public static final int BAD = -1, STATE = -2, FULL = -3, NONE = -4;

    private static final int MOST_FURLONGS = 10;
    private static final int FIRST_FURLONGS = 5;
    private static final int SIDES = 2;
    private static final int HOURS = 12;
    private static final int MOST_SUN = 9;
    private static final int MOST_FROST = 9;
    private static final int MOST_LAID = 200;
    private static final int MOST_PART = 99;
    private static final int MOST_EYES = 3;
    private static final int MOST_LINE = 9;
    private static final int MOST_FELT = 99;
    private static final int FIRST_CHANCE = 3;
    private static final int ALL_CHANCES = 10;
    private static final int MOST_CREWS = 10;
    private static final int MIDDLE = 100;

    private static final int ICED = 1, SHADED = 2, PACKED = 3, CHILD = 4;
    private static final int PACKED_LOSS = 2;

    private static final int MOST_BRAZIERS = 6;
    private static final int MOST_HEAT = 20;
    private static final int LESS_BY_FURLONG = 4;
    private static final int MOST_HOUSES = 8;
    private static final int IMAGES = 2;

    private static final int SHEETS = 4;
    private static final int MOST_CELLS = 40;
    private static final int BYTES = 0, SHORTS = 1, INTS = 2;
    private static final int NULL_FAULT = 1, INDEX_FAULT = 2, CAST_FAULT = 3, SIZE_FAULT = 4;

    private final Text text;
    private final Scene ahead;
    private final Scene[] images;
    private final boolean[] imaged;
    private final Felt rumour;
    private final Ways ways;
    private final Forecast forecast;
    private final Crews gangs;
    private final Sheet[] sheets;
    private Land present;
    private Land draft;
    private int tear;

    public SnowSentries() {
        text = new Text();
        ahead = new Scene();
        images = new Scene[IMAGES];
        imaged = new boolean[IMAGES];
        for (int k = 0; k < IMAGES; k++) {
            images[k] = new Scene();
        }
        rumour = new Felt();
        ways = new Ways();
        forecast = new Forecast();
        gangs = new Crews();
        sheets = new Sheet[SHEETS];
        for (int k = 0; k < SHEETS; k++) {
            sheets[k] = new Sheet();
        }
        present = new Land();
        draft = new Land();
        tear = 0;
    }

    // ---- the text, what there is

    public int feed(long v) {
        return text.append(v);
    }

    public int end(int n) {
        return text.cut(n);
    }

    public int land() {
        draft.wipe();
        text.tell(draft);
        text.length = 0;
        if (text.fault != 0) {
            return -10 - text.place;
        }
        Land old = present;
        present = draft;
        draft = old;
        rumour.size = 0;
        imaged[0] = false;
        imaged[1] = false;
        return text.lines;
    }

    public int fault() {
        return text.fault;
    }

    public int rule(int what) {
        switch (what) {
            case 0: return present.furlongs;
            case 1: return present.scene.hour;
            case 2: return present.law.head;
            case 3: return present.law.eyes;
            case 4: return present.law.uniform;
            case 5: return present.chance;
            default: return BAD;
        }
    }

    public int hour(int h, int what) {
        if (!isHour(h)) {
            return BAD;
        }
        switch (what) {
            case 0: return present.scene.sun[h];
            case 1: return present.frost[h];
            default: return BAD;
        }
    }

    public int furlong(int i, int what) {
        if (!isFurlong(i)) {
            return BAD;
        }
        Scene scene = present.scene;
        switch (what) {
            case 0: return scene.snow[i];
            case 1: return scene.water[i];
            case 2: return scene.lines[i] + MIDDLE;
            case 3: return present.counting(scene, i);
            default: return BAD;
        }
    }

    public int man(int side, int i, int what) {
        if (!isSide(side) || !isFurlong(i) || !isAmong(what, 0, 5)) {
            return BAD;
        }
        Man m = present.scene.manOf(side, i);
        if (!m.there) {
            return NONE;
        }
        switch (what) {
            case 0: return m.kind;
            case 1: return m.base;
            case 2: return m.belly;
            case 3: return m.head;
            case 4: return m.eyes;
            default: return m.uniform ? 1 : 0;
        }
    }

    public int brazier(int b, int what) {
        Braziers fires = present.scene.fires;
        if (!isBrazier(b)) {
            return BAD;
        }
        switch (what) {
            case 0: return fires.furlong[b];
            case 1: return fires.heat[b];
            case 2: return fires.from[b];
            case 3: return fires.to[b];
            default: return BAD;
        }
    }

    public int house(int h, int what) {
        if (!isAmong(h, 0, present.houseCount - 1)) {
            return BAD;
        }
        switch (what) {
            case 0: return present.houseFurlong[h];
            case 1: return present.housePlace[h] + MIDDLE;
            case 2: return present.ownerOf(h, present.scene);
            default: return BAD;
        }
    }

    // ---- what is changed

    public int shine(int h, int v) {
        if (!isHour(h) || !isAmong(v, 0, MOST_SUN)) {
            return BAD;
        }
        int was = present.scene.sun[h];
        present.scene.sun[h] = v;
        return was;
    }

    public int treaty(int what, int v) {
        return present.law.change(what, v);
    }

    public int chance(int v) {
        if (!isAmong(v, 0, ALL_CHANCES)) {
            return BAD;
        }
        int was = present.chance;
        present.chance = v;
        return was;
    }

    public int light(int i, int heat, int from, int to) {
        if (!isFurlong(i) || !isAmong(heat, 1, MOST_HEAT)) {
            return BAD;
        }
        if (!isHour(from) || !isHour(to) || to < from) {
            return BAD;
        }
        Braziers fires = present.scene.fires;
        if (fires.isFull()) {
            return FULL;
        }
        fires.put(i, heat, from, to);
        return fires.size;
    }

    public int quench(int b) {
        if (!isBrazier(b)) {
            return BAD;
        }
        present.scene.fires.takeAway(b);
        return present.scene.fires.size;
    }

    public int mend(int side, int i, int much) {
        if (!isSide(side) || !isFurlong(i) || !isAmong(much, 0, MOST_PART)) {
            return BAD;
        }
        Scene scene = present.scene;
        Man m = scene.manOf(side, i);
        if (!m.there) {
            return NONE;
        }
        if (much > scene.snow[i]) {
            return STATE;
        }
        if (m.head + much > MOST_PART) {
            return FULL;
        }
        scene.snow[i] -= much;
        m.head += much;
        return m.head;
    }

    public int carry(int i, int to, int much) {
        if (!isFurlong(i) || !isFurlong(to) || Math.abs(i - to) != 1 || much < 0) {
            return BAD;
        }
        int[] snow = present.scene.snow;
        if (much > snow[i]) {
            return STATE;
        }
        snow[i] -= much;
        snow[to] += much;
        return snow[to];
    }

    // ---- hours

    public int heat(int i, int h, boolean sun) {
        if (!isFurlong(i) || !isHour(h)) {
            return BAD;
        }
        return sun ? present.scene.heatOn(i, h) : present.scene.fires.warmthOn(i, h);
    }

    public int go(int n) {
        if (!isAmong(n, 1, HOURS)) {
            return BAD;
        }
        int then = present.scene.hour + n;
        if (then > HOURS) {
            return STATE;
        }
        present.passTill(present.scene, then);
        return present.scene.hour;
    }

    public int dawn() {
        int was = present.scene.hour;
        present.scene.hour = 0;
        return was;
    }

    public int all() {
        return present.scene.snowInAll();
    }

    public int later(int side, int i, int h) {
        if (!isSide(side) || !isFurlong(i) || !isFromNow(h)) {
            return BAD;
        }
        lookAhead(h);
        Man m = ahead.manOf(side, i);
        return m.there ? m.head : NONE;
    }

    public int line(int i, int h) {
        if (!isFurlong(i) || !isFromNow(h)) {
            return BAD;
        }
        lookAhead(h);
        return ahead.lines[i] + MIDDLE;
    }

    public int houses(int side, int h) {
        if (!isSide(side) || !isFromNow(h)) {
            return BAD;
        }
        lookAhead(h);
        int bits = 0;
        for (int k = 0; k < present.houseCount; k++) {
            if (present.ownerOf(k, ahead) == side) {
                bits |= 1 << k;
            }
        }
        return bits;
    }

    // ---- holding

    public int holds(int side, int t) {
        if (!isSide(side) || !isFromNow(t)) {
            return BAD;
        }
        return present.holders(side, t);
    }

    public int need(int side, int i, int t) {
        if (!isSide(side) || !isFurlong(i) || !isFromNow(t)) {
            return BAD;
        }
        return present.needOf(side, i, t);
    }

    public int crews(int side, int t, int n, int what) {
        if (!isSide(side) || !isFromNow(t) || !isAmong(n, 0, MOST_CREWS) || !isAmong(what, 0, 2)) {
            return BAD;
        }
        gangs.send(present, side, t, n);
        switch (what) {
            case 0: return gangs.held;
            case 1: return gangs.snow;
            default: return gangs.bits;
        }
    }

    public int gap(int side, int what) {
        if (!isSide(side) || !isAmong(what, 0, 1)) {
            return BAD;
        }
        int now = present.scene.hour;
        int counting = present.holders(side, now);
        for (int t = now + 1; t <= HOURS; t++) {
            int lost = counting & ~present.holders(side, t);
            if (lost != 0) {
                return what == 0 ? t : lowestBit(lost);
            }
        }
        return NONE;
    }

    public int lead(int i, int much, int what) {
        if (!isFurlong(i) || !isAmong(much, 1, MOST_PART)) {
            return BAD;
        }
        int now = present.scene.hour;
        if (what == 0) {
            if (now == HOURS) {
                return STATE;
            }
            ways.weigh(present);
            return ways.lastOf(i, much);
        }
        if (!isAmong(what, 10, 9 + HOURS - now)) {
            return BAD;
        }
        ways.weigh(present);
        return ways.placeOn(i, much, what - 10);
    }

    // ---- spies, forecasts, talks

    public int felt(int v) {
        if (!isAmong(v, 0, MOST_FELT)) {
            return BAD;
        }
        if (rumour.size >= present.furlongs) {
            return FULL;
        }
        rumour.put(v);
        return rumour.size;
    }

    public int forget() {
        int were = rumour.size;
        rumour.size = 0;
        return were;
    }

    public int spy(int what) {
        if (!isAmong(what, 0, 2)) {
            return BAD;
        }
        if (rumour.size == 0) {
            return STATE;
        }
        rumour.seekOne(present.furlongs);
        if (what == 0) {
            return rumour.found;
        }
        if (rumour.found == 0) {
            return NONE;
        }
        return what == 1 ? rumour.firstFurlong : rumour.firstHeat;
    }

    public int spies(int what) {
        if (!isAmong(what, 0, 2)) {
            return BAD;
        }
        if (rumour.size == 0) {
            return STATE;
        }
        rumour.seekTwo(present.furlongs);
        if (what == 0) {
            return rumour.found;
        }
        if (rumour.found == 0) {
            return NONE;
        }
        if (what == 1) {
            return 10 * rumour.firstFurlong + rumour.otherFurlong;
        }
        return 100 * rumour.firstHeat + rumour.otherHeat;
    }

    public long odds(int side, int i, int t, int what) {
        if (!isSide(side) || !isFurlong(i) || !isFromNow(t) || !isAmong(what, 0, 1)) {
            return BAD;
        }
        if (!present.scene.manOf(side, i).there) {
            return NONE;
        }
        forecast.weigh(present, side, i, t);
        return what == 0 ? forecast.numerator : forecast.denominator;
    }

    public int talks(int what) {
        if (!isAmong(what, 0, 1)) {
            return BAD;
        }
        for (int head = 1; head <= MOST_PART; head++) {
            int west = present.strengthBy(0, head);
            if (west == present.strengthBy(1, head)) {
                return what == 0 ? head : west;
            }
        }
        return NONE;
    }

    public int strength(int side) {
        if (!isSide(side)) {
            return BAD;
        }
        return present.strengthBy(side, present.law.head);
    }

    // ---- images, sheets

    public int keep(int k) {
        if (!isAmong(k, 0, IMAGES - 1)) {
            return BAD;
        }
        int was = imaged[k] ? 1 : 0;
        images[k].become(present.scene);
        imaged[k] = true;
        return was;
    }

    public int back(int k) {
        if (!isAmong(k, 0, IMAGES - 1)) {
            return BAD;
        }
        if (!imaged[k]) {
            return STATE;
        }
        present.scene.become(images[k]);
        return present.scene.hour;
    }

    public int sheet(int k, int lane, int n) {
        if (!isSheet(k) || !isAmong(lane, BYTES, INTS) || n > MOST_CELLS) {
            return BAD;
        }
        if (n < 0) {
            return -10 - SIZE_FAULT;
        }
        sheets[k].renew(lane, n);
        return 1;
    }

    public int lay(int k, int i, int v) {
        if (!isSheet(k)) {
            return BAD;
        }
        Sheet row = sheets[k];
        if (!row.there) {
            return -10 - NULL_FAULT;
        }
        if (!isAmong(i, 0, row.size - 1)) {
            return -10 - INDEX_FAULT;
        }
        row.put(i, v);
        return 1;
    }

    public int read(int k, int lane, int f, int n) {
        if (!isSheet(k) || !isAmong(lane, BYTES, INTS) || !isAmong(n, 0, HOURS)) {
            return BAD;
        }
        Sheet row = sheets[k];
        int can = row.readable(lane, f, n);
        for (int i = 0; i < can; i++) {
            if (!isAmong(row.cells[f + i], 0, MOST_SUN)) {
                return -20 - i;
            }
        }
        for (int i = 0; i < can; i++) {
            present.scene.sun[i] = row.cells[f + i];
        }
        tear = can < n ? row.faultFor(lane) : 0;
        return can;
    }

    public int torn() {
        return tear;
    }

    public int count(int what) {
        switch (what) {
            case 0: return present.scene.menInAll();
            case 1: return present.scene.fires.size;
            case 2: return present.houseCount;
            case 3: return rumour.size;
            case 4: return (imaged[0] ? 1 : 0) + (imaged[1] ? 1 : 0);
            case 5: return text.length;
            case 6: return sheets[0].there ? sheets[0].size : NONE;
            default: return BAD;
        }
    }

    // ---- what the calls above share

    private static boolean isAmong(int v, int least, int most) {
        return v >= least && v <= most;
    }

    private static boolean isSide(int side) {
        return isAmong(side, 0, SIDES - 1);
    }

    private static boolean isHour(int h) {
        return isAmong(h, 0, HOURS - 1);
    }

    private static boolean isSheet(int k) {
        return isAmong(k, 0, SHEETS - 1);
    }

    private boolean isFurlong(int i) {
        return isAmong(i, 0, present.furlongs - 1);
    }

    private boolean isBrazier(int b) {
        return isAmong(b, 0, present.scene.fires.size - 1);
    }

    private boolean isFromNow(int h) {
        return isAmong(h, present.scene.hour, HOURS);
    }

    private void lookAhead(int h) {
        ahead.become(present.scene);
        present.passTill(ahead, h);
    }

    private static int lowestBit(int bits) {
        int place = 0;
        while (place < 31 && (bits >> place & 1) == 0) {
            place++;
        }
        return place;
    }

    /** One who stands on a FURLONG for a SIDE, or nobody. */
    private static final class Man {
        boolean there;
        int kind;
        int base;
        int belly;
        int head;
        int eyes;
        boolean uniform;

        void become(Man other) {
            there = other.there;
            kind = other.kind;
            base = other.base;
            belly = other.belly;
            head = other.head;
            eyes = other.eyes;
            uniform = other.uniform;
        }

        int snowOf() {
            return there ? base + belly + head : 0;
        }

        /** What his KIND lets him lose in an HOUR, had he enough. */
        int lossBy(int fire, int sun) {
            switch (kind) {
                case ICED: return (fire + sun) / 2;
                case SHADED: return fire;
                case PACKED: return Math.min(fire + sun, PACKED_LOSS);
                default: return fire + sun;
            }
        }

        /** Takes what he loses from the top down: how much became WATER. */
        int melt(int loss) {
            int ofHead = Math.min(head, loss);
            int ofBelly = Math.min(belly, loss - ofHead);
            int ofBase = Math.min(base, loss - ofHead - ofBelly);
            head -= ofHead;
            belly -= ofBelly;
            base -= ofBase;
            return ofHead + ofBelly + ofBase;
        }
    }

    /** The TREATY: who COUNTS. */
    private static final class Law {
        int head;
        int eyes;
        int uniform;

        void wipe() {
            head = 1;
            eyes = 0;
            uniform = 0;
        }

        int change(int what, int v) {
            if (what == 0 && isAmong(v, 1, MOST_PART)) {
                int was = head;
                head = v;
                return was;
            }
            if (what == 1 && isAmong(v, 0, MOST_EYES)) {
                int was = eyes;
                eyes = v;
                return was;
            }
            if (what == 2 && isAmong(v, 0, 1)) {
                int was = uniform;
                uniform = v;
                return was;
            }
            return BAD;
        }

        /** Whether he would COUNT by a HEAD that is large enough. */
        boolean suits(Man m) {
            return m.there && m.eyes >= eyes && (uniform == 0 || m.uniform);
        }
    }

    /** Rows of BRAZIERS as they came. */
    private static final class Braziers {
        int size;
        final int[] furlong = new int[MOST_BRAZIERS];
        final int[] heat = new int[MOST_BRAZIERS];
        final int[] from = new int[MOST_BRAZIERS];
        final int[] to = new int[MOST_BRAZIERS];

        boolean isFull() {
            return size >= MOST_BRAZIERS;
        }

        void put(int furlongOf, int heatOf, int fromHour, int toHour) {
            if (isFull()) {
                return;
            }
            furlong[size] = furlongOf;
            heat[size] = heatOf;
            from[size] = fromHour;
            to[size] = toHour;
            size++;
        }

        void takeAway(int b) {
            for (int k = b + 1; k < size; k++) {
                furlong[k - 1] = furlong[k];
                heat[k - 1] = heat[k];
                from[k - 1] = from[k];
                to[k - 1] = to[k];
            }
            size--;
        }

        void become(Braziers other) {
            size = other.size;
            System.arraycopy(other.furlong, 0, furlong, 0, MOST_BRAZIERS);
            System.arraycopy(other.heat, 0, heat, 0, MOST_BRAZIERS);
            System.arraycopy(other.from, 0, from, 0, MOST_BRAZIERS);
            System.arraycopy(other.to, 0, to, 0, MOST_BRAZIERS);
        }

        int warmthOn(int i, int h) {
            int sum = 0;
            for (int b = 0; b < size; b++) {
                if (h >= from[b] && h <= to[b]) {
                    sum += reach(heat[b], furlong[b], i);
                }
            }
            return sum;
        }

        static int reach(int heatOf, int at, int i) {
            return Math.max(0, heatOf - LESS_BY_FURLONG * Math.abs(at - i));
        }
    }

    /** All that an IMAGE keeps. */
    private static final class Scene {
        int hour;
        final Man[] men = new Man[SIDES * MOST_FURLONGS];
        final int[] snow = new int[MOST_FURLONGS];
        final int[] water = new int[MOST_FURLONGS];
        final int[] lines = new int[MOST_FURLONGS];
        final int[] sun = new int[HOURS];
        final Braziers fires = new Braziers();

        Scene() {
            for (int k = 0; k < SIDES * MOST_FURLONGS; k++) {
                men[k] = new Man();
            }
        }

        void wipe() {
            hour = 0;
            for (int k = 0; k < SIDES * MOST_FURLONGS; k++) {
                men[k].there = false;
            }
            Arrays.fill(snow, 0);
            Arrays.fill(water, 0);
            Arrays.fill(lines, 0);
            Arrays.fill(sun, 0);
            fires.size = 0;
        }

        void become(Scene other) {
            hour = other.hour;
            for (int k = 0; k < SIDES * MOST_FURLONGS; k++) {
                men[k].become(other.men[k]);
            }
            System.arraycopy(other.snow, 0, snow, 0, MOST_FURLONGS);
            System.arraycopy(other.water, 0, water, 0, MOST_FURLONGS);
            System.arraycopy(other.lines, 0, lines, 0, MOST_FURLONGS);
            System.arraycopy(other.sun, 0, sun, 0, HOURS);
            fires.become(other.fires);
        }

        Man manOf(int side, int i) {
            return men[side * MOST_FURLONGS + i];
        }

        int heatOn(int i, int h) {
            return sun[h] + fires.warmthOn(i, h);
        }

        int menInAll() {
            int sum = 0;
            for (int k = 0; k < SIDES * MOST_FURLONGS; k++) {
                if (men[k].there) {
                    sum++;
                }
            }
            return sum;
        }

        int snowInAll() {
            int sum = 0;
            for (int k = 0; k < SIDES * MOST_FURLONGS; k++) {
                sum += men[k].snowOf();
            }
            for (int i = 0; i < MOST_FURLONGS; i++) {
                sum += snow[i] + water[i];
            }
            return sum;
        }

        void meltOn(int i, int h) {
            int fire = fires.warmthOn(i, h);
            int fallen = 0;
            for (int side = 0; side < SIDES; side++) {
                Man m = manOf(side, i);
                if (m.there) {
                    boolean hadHead = m.head > 0;
                    water[i] += m.melt(m.lossBy(fire, sun[h]));
                    if (m.kind == CHILD && hadHead && m.head == 0) {
                        fallen += m.snowOf();
                        m.there = false;
                    }
                }
            }
            int lost = Math.min(snow[i], fire + sun[h]);
            water[i] += lost;
            // What a child leaves behind does not melt in the same HOUR.
            snow[i] += fallen - lost;
        }

        void freezeOn(int i, int frost) {
            int frozen = Math.min(water[i], frost);
            water[i] -= frozen;
            snow[i] += frozen;
        }
    }

    /** All that a text tells: the SCENE at present, and what no IMAGE keeps. */
    private static final class Land {
        int furlongs;
        int chance;
        final int[] frost = new int[HOURS];
        final Law law = new Law();
        int houseCount;
        final int[] houseFurlong = new int[MOST_HOUSES];
        final int[] housePlace = new int[MOST_HOUSES];
        final Scene scene = new Scene();

        Land() {
            wipe();
        }

        void wipe() {
            furlongs = FIRST_FURLONGS;
            chance = FIRST_CHANCE;
            Arrays.fill(frost, 0);
            law.wipe();
            houseCount = 0;
            scene.wipe();
        }

        void putHouse(int i, int place) {
            if (houseCount < MOST_HOUSES) {
                houseFurlong[houseCount] = i;
                housePlace[houseCount] = place;
                houseCount++;
            }
        }

        int ownerOf(int h, Scene s) {
            int border = s.lines[houseFurlong[h]];
            if (housePlace[h] == border) {
                return NONE;
            }
            return housePlace[h] < border ? 0 : 1;
        }

        /** SIDES that COUNT on a FURLONG, as bits. */
        int counting(Scene s, int i) {
            int bits = 0;
            for (int side = 0; side < SIDES; side++) {
                Man m = s.manOf(side, i);
                if (law.suits(m) && m.head >= law.head) {
                    bits |= 1 << side;
                }
            }
            return bits;
        }

        int strengthBy(int side, int head) {
            int sum = 0;
            for (int i = 0; i < furlongs; i++) {
                Man m = scene.manOf(side, i);
                if (law.suits(m) && m.head >= head) {
                    sum++;
                }
            }
            return sum;
        }

        void passTill(Scene s, int hour) {
            for (int h = s.hour; h < hour && h < HOURS; h++) {
                for (int i = 0; i < furlongs; i++) {
                    s.meltOn(i, h);
                    s.freezeOn(i, frost[h]);
                    moveLine(s, i);
                }
                s.hour = h + 1;
            }
        }

        private void moveLine(Scene s, int i) {
            int bits = counting(s, i);
            if (bits == 1) {
                s.lines[i] = Math.min(MOST_LINE, s.lines[i] + 1);
            } else if (bits == 2) {
                s.lines[i] = Math.max(-MOST_LINE, s.lines[i] - 1);
            }
        }

        /**
         * The snow that his HEAD lacks to COUNT behind the HOUR ahead of t. A HEAD never grows by itself,
         * so who COUNTS then has done so all the time.
         */
        private int lackOf(Man m, int i, int t) {
            int lack = law.head - m.head;
            for (int h = scene.hour; h < t && h < HOURS; h++) {
                lack += m.lossBy(scene.fires.warmthOn(i, h), scene.sun[h]);
            }
            return Math.max(0, lack);
        }

        int needOf(int side, int i, int t) {
            Man m = scene.manOf(side, i);
            if (!law.suits(m)) {
                return NONE;
            }
            int lack = lackOf(m, i, t);
            return m.head + lack > MOST_PART ? NONE : lack;
        }

        /** FURLONGS where a SIDE HOLDS till t, as bits. */
        int holders(int side, int t) {
            int bits = 0;
            for (int i = 0; i < furlongs; i++) {
                if (needOf(side, i, t) == 0) {
                    bits |= 1 << i;
                }
            }
            return bits;
        }
    }

    /** THE TAPE, and how it tells a land. */
    private static final class Text {
        private static final int ROOM = 400;
        private static final int WORD = 8;
        private static final int MOST_FIGURES = 3;
        private static final int BLANK = 32;
        private static final int END = 0, NAME = 1, NUMBER = 2, SEMICOLON = 3;
        private static final int NO_TOKEN = 1, MISPLACED = 2, OUT_OF_BOUNDS = 3, TWICE = 4, TOO_MANY = 5, NO_FURLONG = 6;
        private static final int SAID_FURLONGS = 1, SAID_SUN = 2, SAID_FROST = 4, SAID_TREATY = 8;

        final byte[] bytes = new byte[ROOM];
        int length;
        int lines;
        int fault;
        int place;
        private int kind;
        private int start;
        private int stop;
        private int value;
        private int said;
        private int snowSaid;
        private int farthest;

        int append(long v) {
            if (length > ROOM - WORD) {
                return FULL;
            }
            for (int k = 0; k < WORD; k++) {
                bytes[length + k] = (byte) (v >>> (8 * (WORD - 1 - k)));
            }
            length += WORD;
            return length;
        }

        int cut(int n) {
            if (!isAmong(n, 0, length)) {
                return BAD;
            }
            int had = length;
            length = n;
            return had;
        }

        /** Reads all into a land that is as at first; fault is 0 behind it, if the text is taken. */
        void tell(Land told) {
            lines = 0;
            fault = 0;
            place = 0;
            stop = 0;
            said = 0;
            snowSaid = 0;
            farthest = 0;
            boolean on = readToken();
            while (lines < ROOM && on && kind != END) {
                on = readLine(told) && readToken();
                lines++;
            }
            if (on && farthest >= told.furlongs) {
                refuse(NO_FURLONG, length);
            }
        }

        private boolean refuse(int why, int where) {
            fault = why;
            place = where;
            return false;
        }

        private boolean readLine(Land told) {
            if (isNamed("furlongs")) {
                return readFurlongs(told);
            }
            if (isNamed("sun")) {
                return readHours(SAID_SUN, told.scene.sun, MOST_SUN);
            }
            if (isNamed("frost")) {
                return readHours(SAID_FROST, told.frost, MOST_FROST);
            }
            if (isNamed("treaty")) {
                return readTreaty(told.law);
            }
            if (isNamed("snow")) {
                return readSnow(told.scene);
            }
            if (isNamed("man")) {
                return readMan(told.scene);
            }
            if (isNamed("brazier")) {
                return readBrazier(told.scene.fires);
            }
            if (isNamed("house")) {
                return readHouse(told);
            }
            return refuse(MISPLACED, start);
        }

        private boolean readFurlongs(Land told) {
            if (!isFirst(SAID_FURLONGS) || !readNumber(1, MOST_FURLONGS)) {
                return false;
            }
            told.furlongs = value;
            return readSemicolon();
        }

        private boolean readHours(int which, int[] row, int most) {
            if (!isFirst(which) || !readNumber(0, most)) {
                return false;
            }
            row[0] = value;
            for (int h = 1; h < HOURS; h++) {
                if (!readToken()) {
                    return false;
                }
                if (kind == SEMICOLON) {
                    return true;
                }
                if (!isNumber(0, most)) {
                    return false;
                }
                row[h] = value;
            }
            if (!readToken()) {
                return false;
            }
            // A 13th number is of no HOUR that there is: it has no bounds to be out of.
            return kind == NUMBER ? refuse(TOO_MANY, start) : isSemicolon();
        }

        private boolean readTreaty(Law law) {
            if (!isFirst(SAID_TREATY) || !readNumber(1, MOST_PART)) {
                return false;
            }
            law.head = value;
            if (!readNumber(0, MOST_EYES)) {
                return false;
            }
            law.eyes = value;
            if (!readNumber(0, 1)) {
                return false;
            }
            law.uniform = value;
            return readSemicolon();
        }

        private boolean readSnow(Scene scene) {
            if (!readFurlong()) {
                return false;
            }
            int i = value;
            if ((snowSaid >> i & 1) != 0) {
                return refuse(TWICE, start);
            }
            snowSaid |= 1 << i;
            if (!readNumber(0, MOST_LAID)) {
                return false;
            }
            scene.snow[i] = value;
            return readSemicolon();
        }

        private boolean readMan(Scene scene) {
            if (!readSide()) {
                return false;
            }
            int side = value;
            if (!readFurlong()) {
                return false;
            }
            Man m = scene.manOf(side, value);
            if (m.there) {
                return refuse(TWICE, start);
            }
            m.there = true;
            return readKind(m) && readParts(m) && readDress(m);
        }

        private boolean readKind(Man m) {
            if (!readToken()) {
                return false;
            }
            if (isNamed("plain")) {
                m.kind = 0;
            } else if (isNamed("iced")) {
                m.kind = ICED;
            } else if (isNamed("shaded")) {
                m.kind = SHADED;
            } else if (isNamed("packed")) {
                m.kind = PACKED;
            } else if (isNamed("child")) {
                m.kind = CHILD;
            } else {
                return refuse(MISPLACED, start);
            }
            return true;
        }

        private boolean readParts(Man m) {
            if (!readNumber(0, MOST_PART)) {
                return false;
            }
            m.base = value;
            if (!readNumber(0, MOST_PART)) {
                return false;
            }
            m.belly = value;
            if (!readNumber(0, MOST_PART)) {
                return false;
            }
            m.head = value;
            if (!readNumber(0, MOST_EYES)) {
                return false;
            }
            m.eyes = value;
            return true;
        }

        private boolean readDress(Man m) {
            if (!readToken()) {
                return false;
            }
            m.uniform = !isNamed("bare");
            return m.uniform ? isSemicolon() : readSemicolon();
        }

        private boolean readBrazier(Braziers fires) {
            if (fires.isFull()) {
                return refuse(TOO_MANY, start);
            }
            if (!readFurlong()) {
                return false;
            }
            int i = value;
            if (!readNumber(1, MOST_HEAT)) {
                return false;
            }
            int heatOf = value;
            if (!readNumber(0, HOURS - 1)) {
                return false;
            }
            int from = value;
            if (!readNumber(from, HOURS - 1)) {
                return false;
            }
            fires.put(i, heatOf, from, value);
            return readSemicolon();
        }

        private boolean readHouse(Land told) {
            if (told.houseCount >= MOST_HOUSES) {
                return refuse(TOO_MANY, start);
            }
            if (!readFurlong()) {
                return false;
            }
            int i = value;
            if (!readNumber(0, MOST_LINE)) {
                return false;
            }
            int far = value;
            if (!readSide()) {
                return false;
            }
            told.putHouse(i, value == 0 ? -far : far);
            return readSemicolon();
        }

        /** A FURLONG that a line names; whether there is one of that number is known behind all. */
        private boolean readFurlong() {
            if (!readNumber(0, MOST_FURLONGS - 1)) {
                return false;
            }
            farthest = Math.max(farthest, value);
            return true;
        }

        private boolean readSide() {
            if (!readToken()) {
                return false;
            }
            if (isNamed("west")) {
                value = 0;
                return true;
            }
            if (isNamed("east")) {
                value = 1;
                return true;
            }
            return refuse(MISPLACED, start);
        }

        private boolean readNumber(int least, int most) {
            return readToken() && isNumber(least, most);
        }

        private boolean readSemicolon() {
            return readToken() && isSemicolon();
        }

        private boolean isFirst(int which) {
            if ((said & which) != 0) {
                return refuse(TWICE, start);
            }
            said |= which;
            return true;
        }

        private boolean isNumber(int least, int most) {
            if (kind != NUMBER) {
                return refuse(MISPLACED, start);
            }
            return isAmong(value, least, most) || refuse(OUT_OF_BOUNDS, start);
        }

        private boolean isSemicolon() {
            return kind == SEMICOLON || refuse(MISPLACED, start);
        }

        private boolean isNamed(String name) {
            if (kind != NAME || stop - start != name.length()) {
                return false;
            }
            for (int k = 0; k < name.length(); k++) {
                if (bytes[start + k] != name.charAt(k)) {
                    return false;
                }
            }
            return true;
        }

        /** The next TOKEN, from start to ahead of stop; END begins at the length. */
        private boolean readToken() {
            start = stop;
            while (start < length && bytes[start] == BLANK) {
                start++;
            }
            stop = start;
            if (start >= length) {
                kind = END;
                return true;
            }
            if (bytes[start] == ';') {
                kind = SEMICOLON;
                stop = start + 1;
                return true;
            }
            boolean name = isAmong(bytes[start], 'a', 'z');
            char least = name ? 'a' : '0';
            char most = name ? 'z' : '9';
            while (stop < length && bytes[stop] >= least && bytes[stop] <= most) {
                stop++;
            }
            kind = name ? NAME : NUMBER;
            value = 0;
            for (int k = start; k < stop && !name; k++) {
                value = 10 * value + bytes[k] - '0';
            }
            return name || isAmong(stop - start, 1, MOST_FIGURES) || refuse(NO_TOKEN, start);
        }
    }

    /** What was FELT, and the BRAZIERS by which it would be. */
    private static final class Felt {
        int size;
        int found;
        int firstFurlong;
        int otherFurlong;
        int firstHeat;
        int otherHeat;
        private final int[] heats = new int[MOST_FURLONGS];

        void put(int v) {
            if (size < MOST_FURLONGS) {
                heats[size] = v;
                size++;
            }
        }

        void seekOne(int furlongs) {
            found = 0;
            for (int i = 0; i < furlongs; i++) {
                for (int heatOf = 1; heatOf <= MOST_HEAT; heatOf++) {
                    if (isFeltBy(i, heatOf, i, 0)) {
                        note(i, heatOf, i, 0);
                    }
                }
            }
        }

        void seekTwo(int furlongs) {
            found = 0;
            for (int i = 0; i < furlongs; i++) {
                for (int j = i + 1; j < furlongs; j++) {
                    seekHeats(i, j);
                }
            }
        }

        private void seekHeats(int i, int j) {
            for (int heatOf = 1; heatOf <= MOST_HEAT; heatOf++) {
                for (int other = 1; other <= MOST_HEAT; other++) {
                    if (isFeltBy(i, heatOf, j, other)) {
                        note(i, heatOf, j, other);
                    }
                }
            }
        }

        /** A HEAT of 0 reaches nothing: one BRAZIER is two of which one has none. */
        private boolean isFeltBy(int i, int heatOf, int j, int other) {
            for (int k = 0; k < size; k++) {
                if (Braziers.reach(heatOf, i, k) + Braziers.reach(other, j, k) != heats[k]) {
                    return false;
                }
            }
            return true;
        }

        private void note(int i, int heatOf, int j, int other) {
            if (found == 0) {
                firstFurlong = i;
                firstHeat = heatOf;
                otherFurlong = j;
                otherHeat = other;
            }
            found++;
        }
    }

    /** WAYS of a HEAD from the present HOUR to the end. */
    private static final class Ways {
        private int furlongs;
        private int first;
        /** The least HEAT from an HOUR on, if the HEAD is on a FURLONG in that HOUR. */
        private final int[][] through = new int[HOURS][MOST_FURLONGS];
        /** The least HEAT from an HOUR on, if the HEAD is on a FURLONG ahead of that HOUR. */
        private final int[][] least = new int[HOURS + 1][MOST_FURLONGS];

        void weigh(Land land) {
            furlongs = land.furlongs;
            first = land.scene.hour;
            for (int h = HOURS - 1; h >= first; h--) {
                for (int i = 0; i < furlongs; i++) {
                    through[h][i] = land.scene.heatOn(i, h) + least[h + 1][i];
                }
                for (int i = 0; i < furlongs; i++) {
                    least[h][i] = leastNext(i, h);
                }
            }
        }

        private int leastNext(int i, int h) {
            int found = through[h][i];
            if (i > 0) {
                found = Math.min(found, through[h][i - 1]);
            }
            if (i + 1 < furlongs) {
                found = Math.min(found, through[h][i + 1]);
            }
            return found;
        }

        int lastOf(int i, int much) {
            return Math.max(0, much - least[first][i]);
        }

        /** Where the first of the best WAYS is in the k-th HOUR; if nothing can last, all WAYS are the best. */
        int placeOn(int i, int much, int k) {
            boolean anyWay = lastOf(i, much) == 0;
            int at = i;
            for (int h = first; h <= first + k && h < HOURS; h++) {
                at = stepFrom(at, h, anyWay);
            }
            return at;
        }

        private int stepFrom(int i, int h, boolean anyWay) {
            if (i > 0 && (anyWay || through[h][i - 1] == least[h][i])) {
                return i - 1;
            }
            if (anyWay || through[h][i] == least[h][i]) {
                return i;
            }
            return Math.min(i + 1, furlongs - 1);
        }
    }

    /** Odds by the FORECAST that a MAN does not HOLD. */
    private static final class Forecast {
        private static final int MOST_STEPS = 200;

        long numerator;
        long denominator;
        /** By HEAD: how many of all cases leave him so much. */
        private final long[] cases = new long[MOST_PART + 1];

        void weigh(Land land, int side, int i, int t) {
            Scene scene = land.scene;
            Man m = scene.manOf(side, i);
            Arrays.fill(cases, 0L);
            cases[m.head] = 1L;
            long whole = 1L;
            for (int h = scene.hour; h < t && h < HOURS; h++) {
                int fire = scene.fires.warmthOn(i, h);
                pass(m.lossBy(fire, scene.sun[h]), m.lossBy(fire, scene.sun[h] + 1), land.chance);
                whole *= ALL_CHANCES;
            }
            // A HEAD never grows by itself: who is too small once is so behind the last HOUR.
            long lost = land.law.suits(m) ? casesBelow(land.law.head) : whole;
            reduce(lost, whole);
        }

        /** In place from below: nobody comes to a HEAD that has still to lose. */
        private void pass(int loss, int moreLoss, int chance) {
            for (int head = 0; head <= MOST_PART; head++) {
                long here = cases[head];
                cases[head] = 0L;
                cases[Math.max(0, head - loss)] += here * (ALL_CHANCES - chance);
                cases[Math.max(0, head - moreLoss)] += here * chance;
            }
        }

        private long casesBelow(int least) {
            long sum = 0L;
            for (int head = 0; head < least && head <= MOST_PART; head++) {
                sum += cases[head];
            }
            return sum;
        }

        private void reduce(long above, long below) {
            long a = below;
            long b = above;
            for (int n = 0; n < MOST_STEPS && b != 0L; n++) {
                long rest = a % b;
                a = b;
                b = rest;
            }
            if (a > 0L) {
                numerator = above / a;
                denominator = below / a;
            }
        }
    }

    /** Crews that mend HEADS, those first that need the least. */
    private static final class Crews {
        int held;
        int snow;
        int bits;
        private final int[] needs = new int[MOST_FURLONGS];

        void send(Land land, int side, int t, int crewsLeft) {
            held = 0;
            snow = 0;
            bits = 0;
            for (int i = 0; i < land.furlongs; i++) {
                needs[i] = land.needOf(side, i, t);
                if (needs[i] == 0) {
                    held++;
                }
            }
            for (int n = 0; n < crewsLeft; n++) {
                int i = cheapest(land);
                if (i < 0) {
                    return;
                }
                held++;
                snow += needs[i];
                bits |= 1 << i;
            }
        }

        /** Of several that need as much the first FURLONG, so that the bits are the least. */
        private int cheapest(Land land) {
            int best = -1;
            for (int i = 0; i < land.furlongs; i++) {
                boolean mendable = needs[i] >= 1 && needs[i] <= land.scene.snow[i];
                if (mendable && (bits >> i & 1) == 0 && (best < 0 || needs[i] < needs[best])) {
                    best = i;
                }
            }
            return best;
        }
    }

    /** A row of CELLS of a lane, or nothing. */
    private static final class Sheet {
        boolean there;
        int size;
        final int[] cells = new int[MOST_CELLS];
        private int lane;

        void renew(int laneOf, int n) {
            there = true;
            lane = laneOf;
            size = n;
            Arrays.fill(cells, 0);
        }

        void put(int i, int v) {
            switch (lane) {
                case BYTES:
                    cells[i] = (byte) v;
                    break;
                case SHORTS:
                    cells[i] = (short) v;
                    break;
                default:
                    cells[i] = v;
                    break;
            }
        }

        /** How many of n CELLS from f on come ahead of what the machine refuses. */
        int readable(int laneAs, int f, int n) {
            if (!there || laneAs != lane || !isAmong(f, 0, size - 1)) {
                return 0;
            }
            return Math.min(n, size - f);
        }

        /** Why not all CELLS came: nothing is of every lane, so NULL is found first. */
        int faultFor(int laneAs) {
            if (!there) {
                return NULL_FAULT;
            }
            return laneAs == lane ? INDEX_FAULT : CAST_FAULT;
        }
    }
}
