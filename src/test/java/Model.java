import java.math.BigInteger;
import java.util.ArrayList;
import java.util.Arrays;
import java.util.HashSet;
import java.util.List;
import java.util.Set;

/** The document once more, the slow way: all is tried one by one, with no thought of how much it makes. */
final class Model {
    private static final int BAD = -1, STATE = -2, FULL = -3, NONE = -4;
    private static final List<String> KINDS = List.of("plain", "iced", "shaded", "packed", "child");

    record Snowman(int side, int at, int kind, int base, int belly, int head, int eyes, boolean dressed) {
        Snowman with(int newBase, int newBelly, int newHead) {
            return new Snowman(side, at, kind, newBase, newBelly, newHead, eyes, dressed);
        }
    }

    record Fire(int at, int heat, int from, int to) { }

    record Home(int at, int place) { }

    static final class World {
        int furlongs = 5, hour = 0, chance = 3;
        int[] treaty = {1, 0, 0};
        int[] sun = new int[12], frost = new int[12];
        int[] snow = new int[10], water = new int[10], line = new int[10];
        List<Snowman> men = new ArrayList<>();
        List<Fire> fires = new ArrayList<>();
        List<Home> homes = new ArrayList<>();

        World copy() {
            World w = new World();
            w.furlongs = furlongs;
            w.chance = chance;
            w.treaty = treaty.clone();
            w.frost = frost.clone();
            w.homes = new ArrayList<>(homes);
            w.imageOf(this);
            return w;
        }

        void imageOf(World w) {
            hour = w.hour;
            sun = w.sun.clone();
            snow = w.snow.clone();
            water = w.water.clone();
            line = w.line.clone();
            men = new ArrayList<>(w.men);
            fires = new ArrayList<>(w.fires);
        }

        Snowman at(int side, int i) {
            for (Snowman m : men) {
                if (m.side == side && m.at == i) {
                    return m;
                }
            }
            return null;
        }

        int fire(int i, int h) {
            int sum = 0;
            for (Fire f : fires) {
                if (f.from <= h && h <= f.to) {
                    int here = f.heat;
                    for (int d = 0; d < Math.abs(f.at - i); d++) {
                        here -= 4;
                    }
                    sum += here > 0 ? here : 0;
                }
            }
            return sum;
        }

        boolean counts(Snowman m) {
            if (m == null || m.head < treaty[0] || m.eyes < treaty[1]) {
                return false;
            }
            return treaty[2] == 0 || m.dressed;
        }

        void step() {
            for (int i = 0; i < furlongs; i++) {
                int heat = fire(i, hour) + sun[hour];
                List<Snowman> fallen = new ArrayList<>();
                for (int side = 0; side < 2; side++) {
                    Snowman m = at(side, i);
                    if (m == null) {
                        continue;
                    }
                    int loss = heat;
                    if (m.kind == 1) {
                        loss = heat / 2;
                    } else if (m.kind == 2) {
                        loss = fire(i, hour);
                    } else if (m.kind == 3 && heat > 2) {
                        loss = 2;
                    }
                    Snowman then = m;
                    // One flake after another.
                    for (int n = 0; n < loss; n++) {
                        if (then.head > 0) {
                            then = then.with(then.base, then.belly, then.head - 1);
                        } else if (then.belly > 0) {
                            then = then.with(then.base, then.belly - 1, 0);
                        } else if (then.base > 0) {
                            then = then.with(then.base - 1, 0, 0);
                        } else {
                            break;
                        }
                        water[i]++;
                    }
                    men.set(men.indexOf(m), then);
                    if (m.kind == 4 && m.head > 0 && then.head == 0) {
                        fallen.add(then);
                    }
                }
                for (int n = 0; n < heat && snow[i] > 0; n++) {
                    snow[i]--;
                    water[i]++;
                }
                for (Snowman m : fallen) {
                    snow[i] += m.base + m.belly;
                    men.remove(m);
                }
                for (int n = 0; n < frost[hour] && water[i] > 0; n++) {
                    snow[i]++;
                    water[i]--;
                }
            }
            hour++;
            for (int i = 0; i < furlongs; i++) {
                boolean west = counts(at(0, i)), east = counts(at(1, i));
                if (west && !east && line[i] < 9) {
                    line[i]++;
                }
                if (east && !west && line[i] > -9) {
                    line[i]--;
                }
            }
        }

        World after(int h) {
            World w = copy();
            while (w.hour < h) {
                w.step();
            }
            return w;
        }

        int owner(Home home) {
            if (home.place < line[home.at]) {
                return 0;
            }
            return home.place > line[home.at] ? 1 : NONE;
        }

        boolean holds(int side, int i, int t) {
            World w = copy();
            if (!w.counts(w.at(side, i))) {
                return false;
            }
            while (w.hour < t) {
                w.step();
                if (!w.counts(w.at(side, i))) {
                    return false;
                }
            }
            return true;
        }

        int need(int side, int i, int t) {
            Snowman m = at(side, i);
            if (m == null) {
                return NONE;
            }
            for (int much = 0; m.head + much <= 99; much++) {
                World w = copy();
                w.men.set(w.men.indexOf(m), m.with(m.base, m.belly, m.head + much));
                if (w.holds(side, i, t)) {
                    return much;
                }
            }
            return NONE;
        }
    }

    private static final class Refusal extends RuntimeException {
        private static final long serialVersionUID = 1L;
        final int fault, place;

        Refusal(int fault, int place) {
            this.fault = fault;
            this.place = place;
        }
    }

    private World w = new World();
    private String tape = "";
    private int latestFault = 0, latestTear = 0;
    private List<Integer> feltHeats = new ArrayList<>();
    private final World[] kept = new World[2];
    private final Object[] rows = new Object[4];

    // ---- the text

    int feed(long v) {
        if (tape.length() + 8 > 400) {
            return FULL;
        }
        for (int shift = 56; shift >= 0; shift -= 8) {
            tape += (char) (v >> shift & 255);
        }
        return tape.length();
    }

    int end(int n) {
        if (n < 0 || n > tape.length()) {
            return BAD;
        }
        int had = tape.length();
        tape = tape.substring(0, n);
        return had;
    }

    private int at;
    private String token;
    private int tokenAt;

    private void next() {
        while (at < tape.length() && tape.charAt(at) == ' ') {
            at++;
        }
        tokenAt = at;
        String rest = tape.substring(at);
        if (rest.isEmpty()) {
            token = "";
        } else if (rest.startsWith(";")) {
            token = ";";
        } else {
            String names = rest.replaceFirst("(?s)^([a-z]*).*$", "$1");
            String figures = rest.replaceFirst("(?s)^([0-9]*).*$", "$1");
            token = names + figures;
            if (token.isEmpty() || figures.length() > 3 && names.isEmpty()) {
                throw new Refusal(1, at);
            }
            token = names.isEmpty() ? figures : names;
        }
        at += token.length();
    }

    private int number(int least, int most) {
        if (token.isEmpty() || !Character.isDigit(token.charAt(0))) {
            throw new Refusal(2, tokenAt);
        }
        int v = Integer.parseInt(token);
        if (v < least || v > most) {
            throw new Refusal(3, tokenAt);
        }
        return v;
    }

    private int nextNumber(int least, int most) {
        next();
        return number(least, most);
    }

    private int nextName(String... names) {
        next();
        int which = Arrays.asList(names).indexOf(token);
        if (which < 0) {
            throw new Refusal(2, tokenAt);
        }
        return which;
    }

    private World parse(int[] lines) {
        World told = new World();
        Set<String> said = new HashSet<>();
        int far = 0;
        at = 0;
        for (next(); !token.isEmpty(); next()) {
            int nameAt = tokenAt;
            String name = token;
            if (List.of("furlongs", "sun", "frost", "treaty").contains(name) && !said.add(name)) {
                throw new Refusal(4, nameAt);
            }
            switch (name) {
                case "furlongs" -> told.furlongs = nextNumber(1, 10);
                case "sun", "frost" -> {
                    int[] row = name.equals("sun") ? told.sun : told.frost;
                    row[0] = nextNumber(0, 9);
                    int n = 1;
                    for (next(); !token.equals(";"); next()) {
                        if (n == 12) {
                            number(0, 999);
                            throw new Refusal(5, tokenAt);
                        }
                        row[n++] = number(0, 9);
                    }
                    lines[0]++;
                    continue;
                }
                case "treaty" -> told.treaty = new int[] {nextNumber(1, 99), nextNumber(0, 3), nextNumber(0, 1)};
                case "snow" -> {
                    int i = nextNumber(0, 9);
                    if (!said.add("snow " + i)) {
                        throw new Refusal(4, tokenAt);
                    }
                    told.snow[i] = nextNumber(0, 200);
                    far = Math.max(far, i);
                }
                case "man" -> {
                    int side = nextName("west", "east");
                    int i = nextNumber(0, 9);
                    if (told.at(side, i) != null) {
                        throw new Refusal(4, tokenAt);
                    }
                    int kind = nextName(KINDS.toArray(new String[0]));
                    int base = nextNumber(0, 99), belly = nextNumber(0, 99), head = nextNumber(0, 99), eyes = nextNumber(0, 3);
                    boolean bare = nextName(";", "bare") == 1;
                    told.men.add(new Snowman(side, i, kind, base, belly, head, eyes, !bare));
                    far = Math.max(far, i);
                    if (!bare) {
                        lines[0]++;
                        continue;
                    }
                }
                case "brazier" -> {
                    if (told.fires.size() == 6) {
                        throw new Refusal(5, nameAt);
                    }
                    int i = nextNumber(0, 9), heat = nextNumber(1, 20), from = nextNumber(0, 11), to = nextNumber(from, 11);
                    told.fires.add(new Fire(i, heat, from, to));
                    far = Math.max(far, i);
                }
                case "house" -> {
                    if (told.homes.size() == 8) {
                        throw new Refusal(5, nameAt);
                    }
                    int i = nextNumber(0, 9), place = nextNumber(0, 9);
                    told.homes.add(new Home(i, nextName("west", "east") == 0 ? -place : place));
                    far = Math.max(far, i);
                }
                default -> throw new Refusal(2, nameAt);
            }
            nextName(";");
            lines[0]++;
        }
        if (far >= told.furlongs) {
            throw new Refusal(6, tape.length());
        }
        return told;
    }

    int land() {
        int[] lines = {0};
        try {
            w = parse(lines);
        } catch (Refusal r) {
            latestFault = r.fault;
            tape = "";
            return -10 - r.place;
        }
        latestFault = 0;
        tape = "";
        feltHeats.clear();
        Arrays.fill(kept, null);
        return lines[0];
    }

    int fault() {
        return latestFault;
    }

    // ---- what there is

    private boolean noFurlong(int i) {
        return i < 0 || i >= w.furlongs;
    }

    private static boolean out(int v, int least, int most) {
        return v < least || v > most;
    }

    private boolean past(int h) {
        return h < w.hour || h > 12;
    }

    int rule(int what) {
        int[] all = {w.furlongs, w.hour, w.treaty[0], w.treaty[1], w.treaty[2], w.chance};
        return out(what, 0, 5) ? BAD : all[what];
    }

    int hour(int h, int what) {
        return out(h, 0, 11) || out(what, 0, 1) ? BAD : what == 0 ? w.sun[h] : w.frost[h];
    }

    int furlong(int i, int what) {
        if (noFurlong(i) || out(what, 0, 3)) {
            return BAD;
        }
        int bits = (w.counts(w.at(0, i)) ? 1 : 0) + (w.counts(w.at(1, i)) ? 2 : 0);
        return new int[] {w.snow[i], w.water[i], w.line[i] + 100, bits}[what];
    }

    int man(int side, int i, int what) {
        if (out(side, 0, 1) || noFurlong(i) || out(what, 0, 5)) {
            return BAD;
        }
        Snowman m = w.at(side, i);
        return m == null ? NONE : new int[] {m.kind, m.base, m.belly, m.head, m.eyes, m.dressed ? 1 : 0}[what];
    }

    int brazier(int b, int what) {
        if (out(b, 0, w.fires.size() - 1) || out(what, 0, 3)) {
            return BAD;
        }
        Fire f = w.fires.get(b);
        return new int[] {f.at, f.heat, f.from, f.to}[what];
    }

    int house(int h, int what) {
        if (out(h, 0, w.homes.size() - 1) || out(what, 0, 2)) {
            return BAD;
        }
        Home home = w.homes.get(h);
        return new int[] {home.at, home.place + 100, w.owner(home)}[what];
    }

    // ---- what is changed

    int shine(int h, int v) {
        if (out(h, 0, 11) || out(v, 0, 9)) {
            return BAD;
        }
        int was = w.sun[h];
        w.sun[h] = v;
        return was;
    }

    int treaty(int what, int v) {
        if (out(what, 0, 2) || out(v, what == 0 ? 1 : 0, new int[] {99, 3, 1}[what])) {
            return BAD;
        }
        int was = w.treaty[what];
        w.treaty[what] = v;
        return was;
    }

    int chance(int v) {
        if (out(v, 0, 10)) {
            return BAD;
        }
        int was = w.chance;
        w.chance = v;
        return was;
    }

    int light(int i, int heat, int from, int to) {
        if (noFurlong(i) || out(heat, 1, 20) || out(from, 0, 11) || out(to, from, 11)) {
            return BAD;
        }
        if (w.fires.size() == 6) {
            return FULL;
        }
        w.fires.add(new Fire(i, heat, from, to));
        return w.fires.size();
    }

    int quench(int b) {
        if (out(b, 0, w.fires.size() - 1)) {
            return BAD;
        }
        w.fires.remove(b);
        return w.fires.size();
    }

    int mend(int side, int i, int much) {
        if (out(side, 0, 1) || noFurlong(i) || out(much, 0, 99)) {
            return BAD;
        }
        Snowman m = w.at(side, i);
        if (m == null) {
            return NONE;
        }
        if (w.snow[i] < much) {
            return STATE;
        }
        if (m.head + much > 99) {
            return FULL;
        }
        w.snow[i] -= much;
        w.men.set(w.men.indexOf(m), m.with(m.base, m.belly, m.head + much));
        return m.head + much;
    }

    int carry(int i, int to, int much) {
        if (noFurlong(i) || noFurlong(to) || to != i + 1 && to != i - 1 || much < 0) {
            return BAD;
        }
        if (w.snow[i] < much) {
            return STATE;
        }
        w.snow[i] -= much;
        w.snow[to] += much;
        return w.snow[to];
    }

    // ---- hours

    int heat(int i, int h, boolean sun) {
        return noFurlong(i) || out(h, 0, 11) ? BAD : w.fire(i, h) + (sun ? w.sun[h] : 0);
    }

    int go(int n) {
        if (out(n, 1, 12)) {
            return BAD;
        }
        if (w.hour + n > 12) {
            return STATE;
        }
        for (int k = 0; k < n; k++) {
            w.step();
        }
        return w.hour;
    }

    int dawn() {
        int was = w.hour;
        w.hour = 0;
        return was;
    }

    int all() {
        int sum = Arrays.stream(w.snow).sum() + Arrays.stream(w.water).sum();
        for (Snowman m : w.men) {
            sum += m.base + m.belly + m.head;
        }
        return sum;
    }

    int later(int side, int i, int h) {
        if (out(side, 0, 1) || noFurlong(i) || past(h)) {
            return BAD;
        }
        Snowman m = w.after(h).at(side, i);
        return m == null ? NONE : m.head;
    }

    int line(int i, int h) {
        return noFurlong(i) || past(h) ? BAD : w.after(h).line[i] + 100;
    }

    int houses(int side, int h) {
        if (out(side, 0, 1) || past(h)) {
            return BAD;
        }
        World then = w.after(h);
        int bits = 0;
        for (int k = 0; k < w.homes.size(); k++) {
            bits += then.owner(w.homes.get(k)) == side ? 1 << k : 0;
        }
        return bits;
    }

    // ---- holding

    int holds(int side, int t) {
        if (out(side, 0, 1) || past(t)) {
            return BAD;
        }
        int bits = 0;
        for (int i = 0; i < w.furlongs; i++) {
            bits += w.holds(side, i, t) ? 1 << i : 0;
        }
        return bits;
    }

    int need(int side, int i, int t) {
        return out(side, 0, 1) || noFurlong(i) || past(t) ? BAD : w.need(side, i, t);
    }

    int crews(int side, int t, int n, int what) {
        if (out(side, 0, 1) || past(t) || out(n, 0, 10) || out(what, 0, 2)) {
            return BAD;
        }
        int[] needs = new int[w.furlongs];
        int held = 0;
        for (int i = 0; i < w.furlongs; i++) {
            needs[i] = w.need(side, i, t);
            held += needs[i] == 0 ? 1 : 0;
        }
        int[] best = {-1, 0, 0};
        for (int bits = 0; bits < 1 << w.furlongs; bits++) {
            int snow = 0;
            boolean fits = Integer.bitCount(bits) <= n;
            for (int i = 0; i < w.furlongs; i++) {
                if ((bits >> i & 1) == 1) {
                    fits = fits && needs[i] >= 1 && needs[i] <= w.snow[i];
                    snow += needs[i];
                }
            }
            int holding = held + Integer.bitCount(bits);
            if (fits && (holding > best[0] || holding == best[0] && snow < best[1])) {
                best = new int[] {holding, snow, bits};
            }
        }
        return best[what];
    }

    int gap(int side, int what) {
        if (out(side, 0, 1) || out(what, 0, 1)) {
            return BAD;
        }
        for (int t = w.hour; t <= 12; t++) {
            for (int i = 0; i < w.furlongs; i++) {
                if (w.counts(w.at(side, i)) && !w.holds(side, i, t)) {
                    return what == 0 ? t : i;
                }
            }
        }
        return NONE;
    }

    private int bestLast;
    private int[] bestWay;

    /** All WAYS in the order of their FURLONGS. */
    private void tryWays(int[] way, int k, int at, int left) {
        if (w.hour + k == 12) {
            if (left > bestLast) {
                bestLast = left;
                bestWay = way.clone();
            }
            return;
        }
        for (int to = at - 1; to <= at + 1; to++) {
            if (!noFurlong(to)) {
                way[k] = to;
                tryWays(way, k + 1, to, Math.max(0, left - w.fire(to, w.hour + k) - w.sun[w.hour + k]));
            }
        }
    }

    int lead(int i, int much, int what) {
        if (noFurlong(i) || out(much, 1, 99) || what != 0 && out(what, 10, 21 - w.hour)) {
            return BAD;
        }
        if (w.hour == 12) {
            return STATE;
        }
        bestLast = -1;
        tryWays(new int[12], 0, i, much);
        return what == 0 ? bestLast : bestWay[what - 10];
    }

    // ---- spies, forecasts, talks

    int felt(int v) {
        if (out(v, 0, 99)) {
            return BAD;
        }
        if (feltHeats.size() == w.furlongs) {
            return FULL;
        }
        feltHeats.add(v);
        return feltHeats.size();
    }

    int forget() {
        int were = feltHeats.size();
        feltHeats = new ArrayList<>();
        return were;
    }

    private boolean feltBy(Fire... fires) {
        World alone = new World();
        alone.fires = List.of(fires);
        for (int k = 0; k < feltHeats.size(); k++) {
            if (alone.fire(k, 0) != feltHeats.get(k)) {
                return false;
            }
        }
        return true;
    }

    private int told(List<int[]> found, int what) {
        if (what == 0) {
            return found.size();
        }
        return found.isEmpty() ? NONE : found.get(0)[what - 1];
    }

    int spy(int what) {
        if (out(what, 0, 2)) {
            return BAD;
        }
        if (feltHeats.isEmpty()) {
            return STATE;
        }
        List<int[]> found = new ArrayList<>();
        for (int i = 0; i < w.furlongs; i++) {
            for (int heat = 1; heat <= 20; heat++) {
                if (feltBy(new Fire(i, heat, 0, 0))) {
                    found.add(new int[] {i, heat});
                }
            }
        }
        return told(found, what);
    }

    int spies(int what) {
        if (out(what, 0, 2)) {
            return BAD;
        }
        if (feltHeats.isEmpty()) {
            return STATE;
        }
        List<int[]> found = new ArrayList<>();
        for (int n = 0; n < 100; n++) {
            int i = n / 10, j = n % 10;
            if (i >= j || noFurlong(j)) {
                continue;
            }
            for (int m = 0; m < 400; m++) {
                int a = m / 20 + 1, b = m % 20 + 1;
                if (feltBy(new Fire(i, a, 0, 0), new Fire(j, b, 0, 0))) {
                    found.add(new int[] {n, 100 * a + b});
                }
            }
        }
        return told(found, what);
    }

    long odds(int side, int i, int t, int what) {
        if (out(side, 0, 1) || noFurlong(i) || past(t) || out(what, 0, 1)) {
            return BAD;
        }
        if (w.at(side, i) == null) {
            return NONE;
        }
        int hours = t - w.hour;
        BigInteger lost = BigInteger.ZERO;
        for (int set = 0; set < 1 << hours; set++) {
            World then = w.copy();
            BigInteger weight = BigInteger.ONE;
            for (int k = 0; k < hours; k++) {
                boolean more = (set >> k & 1) == 1;
                then.sun[w.hour + k] += more ? 1 : 0;
                weight = weight.multiply(BigInteger.valueOf(more ? w.chance : 10 - w.chance));
            }
            if (weight.signum() > 0 && !then.holds(side, i, t)) {
                lost = lost.add(weight);
            }
        }
        BigInteger whole = BigInteger.TEN.pow(hours);
        BigInteger shared = lost.gcd(whole);
        return (what == 0 ? lost : whole).divide(shared).longValueExact();
    }

    int talks(int what) {
        if (out(what, 0, 1)) {
            return BAD;
        }
        for (int head = 1; head <= 99; head++) {
            World by = w.copy();
            by.treaty[0] = head;
            int[] many = new int[2];
            for (Snowman m : by.men) {
                many[m.side] += by.counts(m) ? 1 : 0;
            }
            if (many[0] == many[1]) {
                return what == 0 ? head : many[0];
            }
        }
        return NONE;
    }

    int strength(int side) {
        if (out(side, 0, 1)) {
            return BAD;
        }
        return (int) w.men.stream().filter(m -> m.side == side && w.counts(m)).count();
    }

    // ---- images, sheets

    int keep(int k) {
        if (out(k, 0, 1)) {
            return BAD;
        }
        int was = kept[k] == null ? 0 : 1;
        kept[k] = w.copy();
        return was;
    }

    int back(int k) {
        if (out(k, 0, 1)) {
            return BAD;
        }
        if (kept[k] == null) {
            return STATE;
        }
        w.imageOf(kept[k]);
        return w.hour;
    }

    int sheet(int k, int lane, int n) {
        if (out(k, 0, 3) || out(lane, 0, 2) || n > 40) {
            return BAD;
        }
        try {
            rows[k] = lane == 0 ? new byte[n] : lane == 1 ? new short[n] : new int[n];
        } catch (NegativeArraySizeException e) {
            return -14;
        }
        return 1;
    }

    int lay(int k, int i, int v) {
        if (out(k, 0, 3)) {
            return BAD;
        }
        try {
            if (rows[k] instanceof byte[] row) {
                row[i] = (byte) v;
            } else if (rows[k] instanceof short[] row) {
                row[i] = (short) v;
            } else {
                ((int[]) rows[k])[i] = v;
            }
        } catch (NullPointerException e) {
            return -11;
        } catch (ArrayIndexOutOfBoundsException e) {
            return -12;
        }
        return 1;
    }

    private static int cell(Object row, int lane, int i) {
        return lane == 0 ? ((byte[]) row)[i] : lane == 1 ? ((short[]) row)[i] : ((int[]) row)[i];
    }

    /** Here the machine itself finds the FAULTS. */
    int read(int k, int lane, int f, int n) {
        if (out(k, 0, 3) || out(lane, 0, 2) || out(n, 0, 12)) {
            return BAD;
        }
        int[] sun = w.sun.clone();
        int fault = 0, came = 0;
        try {
            for (int i = 0; i < n; i++) {
                int v = cell(rows[k], lane, f + i);
                if (out(v, 0, 9)) {
                    return -20 - i;
                }
                sun[i] = v;
                came++;
            }
        } catch (NullPointerException e) {
            fault = 1;
        } catch (ArrayIndexOutOfBoundsException e) {
            fault = 2;
        } catch (ClassCastException e) {
            fault = 3;
        }
        w.sun = sun;
        latestTear = fault;
        return came;
    }

    int torn() {
        return latestTear;
    }

    int count(int what) {
        int images = (kept[0] == null ? 0 : 1) + (kept[1] == null ? 0 : 1);
        int cells = rows[0] == null ? NONE : java.lang.reflect.Array.getLength(rows[0]);
        int[] all = {w.men.size(), w.fires.size(), w.homes.size(), feltHeats.size(), images, tape.length(), cells};
        return out(what, 0, 6) ? BAD : all[what];
    }
}
