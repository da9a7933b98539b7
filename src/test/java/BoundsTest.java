import java.util.function.Supplier;

/**
 * "BAD -1 (a number is not as told, there is no such FURLONG, SIDE, MAN, HOUR, BRAZIER, HOUSE, IMAGE, SHEET)": for each
 * number of each call the last that is taken and the first that is refused, on both sides, and all between.
 */
public final class BoundsTest {
    private static final int BAD = SnowSentries.BAD;
    private static final int LEAST = Integer.MIN_VALUE, MOST = Integer.MAX_VALUE;
    private static final Check check = new Check("BoundsTest");

    private interface Call {
        long with(SnowSentries x, int v);
    }

    private static Supplier<SnowSentries> made = SnowSentries::new;
    private static String land = "";

    public static void main(String[] args) {
        for (int furlongs : new int[] {1, 2, 5, 10}) {
            ofFurlongs(furlongs);
        }
        text();
        rules();
        hours();
        sides();
        for (int n = 0; n <= 8; n++) {
            braziersAndHouses(Math.min(n, 6), n);
        }
        treaties();
        lights();
        much();
        going();
        for (int now = 0; now <= 12; now++) {
            fromNowOn(now);
        }
        whats();
        imagesAndSheets();
        check.finish();
    }

    /** From now on each call is on a new object that is made so. */
    private static void on(String name, Supplier<SnowSentries> maker) {
        land = name;
        made = maker;
    }

    private static boolean isBad(Call call, int v) {
        return call.with(made.get(), v) == BAD;
    }

    /** The call takes the numbers from least to most, and refuses all others as BAD. */
    private static void takes(String call, int least, int most, Call how) {
        for (int v = least; v <= most; v++) {
            check.due(call + " of " + v + " is BAD" + land, isBad(how, v) ? 1 : 0, 0);
        }
        refusesBelow(call, least, how);
        refusesAbove(call, most, how);
    }

    private static void refusesBelow(String call, int least, Call how) {
        for (int v : new int[] {least - 1, least - 2, least - 256, least - 65536, LEAST + 1, LEAST}) {
            check.due(call + " of " + v + " is BAD" + land, isBad(how, v) ? 1 : 0, 1);
        }
    }

    private static void refusesAbove(String call, int most, Call how) {
        for (int v : new int[] {most + 1, most + 2, most + 256, most + 65536, MOST - 1, MOST}) {
            check.due(call + " of " + v + " is BAD" + land, isBad(how, v) ? 1 : 0, 1);
        }
    }

    private static void ofFurlongs(int n) {
        on(" with " + n + " furlongs", () -> Check.told("furlongs " + n + ";"));
        int last = n - 1;
        takes("furlong", 0, last, (x, v) -> x.furlong(v, 0));
        takes("man", 0, last, (x, v) -> x.man(0, v, 0));
        takes("light", 0, last, (x, v) -> x.light(v, 1, 0, 0));
        takes("mend", 0, last, (x, v) -> x.mend(1, v, 0));
        takes("heat", 0, last, (x, v) -> x.heat(v, 0, true));
        takes("later", 0, last, (x, v) -> x.later(1, v, 12));
        takes("line", 0, last, (x, v) -> x.line(v, 12));
        takes("need", 0, last, (x, v) -> x.need(0, v, 12));
        takes("lead", 0, last, (x, v) -> x.lead(v, 1, 0));
        takes("lead to a place", 0, last, (x, v) -> x.lead(v, 1, 10));
        takes("odds", 0, last, (x, v) -> x.odds(0, v, 12, 0));
        takes("carry up", 0, last - 1, (x, v) -> x.carry(v, v + 1, 0));
        takes("carry down", 1, last, (x, v) -> x.carry(v, v - 1, 0));
        for (int i = 0; i < n; i++) {
            for (int to = -2; to < n + 2; to++) {
                boolean next = (to == i + 1 || to == i - 1) && to >= 0 && to < n;
                check.due("carry from " + i + " to " + to + land, made.get().carry(i, to, 0), next ? 0 : BAD);
            }
        }
        check.due("carry around" + land, made.get().carry(MOST, LEAST, 0), BAD);
        check.due("carry around" + land, made.get().carry(LEAST, MOST, 0), BAD);
    }

    private static SnowSentries withTape(int length) {
        SnowSentries x = new SnowSentries();
        for (int n = 0; n < length; n += 8) {
            x.feed(0);
        }
        x.end(length);
        return x;
    }

    private static void text() {
        for (int length : new int[] {0, 1, 8, 15, 399, 400}) {
            on(" with " + length + " bytes", () -> withTape(length));
            takes("end", 0, length, (x, v) -> x.end(v));
        }
    }

    private static void rules() {
        on("", SnowSentries::new);
        takes("rule", 0, 5, (x, v) -> x.rule(v));
        takes("chance", 0, 10, (x, v) -> x.chance(v));
        takes("felt", 0, 99, (x, v) -> x.felt(v));
        takes("count but for 6", 0, 6, (x, v) -> x.count(v));
    }

    private static void hours() {
        on("", SnowSentries::new);
        takes("hour, sun", 0, 11, (x, v) -> x.hour(v, 0));
        takes("hour, frost", 0, 11, (x, v) -> x.hour(v, 1));
        takes("hour, what", 0, 1, (x, v) -> x.hour(0, v));
        takes("hour, what of the last", 0, 1, (x, v) -> x.hour(11, v));
        takes("shine", 0, 11, (x, v) -> x.shine(v, 9));
        takes("shine, sun", 0, 9, (x, v) -> x.shine(11, v));
        takes("heat with sun", 0, 11, (x, v) -> x.heat(4, v, true));
        takes("heat without", 0, 11, (x, v) -> x.heat(0, v, false));
    }

    private static void sides() {
        on("", () -> Check.told("man west 0 plain 1 1 1 1;man east 0 plain 1 1 1 1;snow 0 9;"));
        takes("man", 0, 1, (x, v) -> x.man(v, 0, 0));
        takes("mend", 0, 1, (x, v) -> x.mend(v, 0, 1));
        takes("later", 0, 1, (x, v) -> x.later(v, 0, 1));
        takes("houses", 0, 1, (x, v) -> x.houses(v, 1));
        takes("holds", 0, 1, (x, v) -> x.holds(v, 1));
        takes("need", 0, 1, (x, v) -> x.need(v, 0, 1));
        takes("crews", 0, 1, (x, v) -> x.crews(v, 1, 1, 0));
        takes("gap", 0, 1, (x, v) -> x.gap(v, 0));
        takes("odds", 0, 1, (x, v) -> x.odds(v, 0, 1, 0));
        takes("strength", 0, 1, (x, v) -> x.strength(v));
    }

    private static void braziersAndHouses(int fires, int homes) {
        on(" with " + fires + " braziers, " + homes + " houses",
            () -> Check.told("brazier 4 20 0 11;".repeat(fires) + "house 4 9 west;".repeat(homes)));
        takes("brazier", 0, fires - 1, (x, v) -> x.brazier(v, 3));
        takes("quench", 0, fires - 1, (x, v) -> x.quench(v));
        takes("house", 0, homes - 1, (x, v) -> x.house(v, 2));
        check.due("braziers" + land, made.get().count(1), fires);
        check.due("houses" + land, made.get().count(2), homes);
    }

    private static void treaties() {
        on("", SnowSentries::new);
        takes("treaty 0", 1, 99, (x, v) -> x.treaty(0, v));
        takes("treaty 1", 0, 3, (x, v) -> x.treaty(1, v));
        takes("treaty 2", 0, 1, (x, v) -> x.treaty(2, v));
        takes("treaty, what", 0, 2, (x, v) -> x.treaty(v, 1));
    }

    private static void lights() {
        on("", SnowSentries::new);
        takes("light, heat", 1, 20, (x, v) -> x.light(0, v, 0, 11));
        takes("light, from", 0, 11, (x, v) -> x.light(0, 1, v, 11));
        takes("light, to", 0, 11, (x, v) -> x.light(0, 1, 0, v));
        takes("light, to behind 7", 7, 11, (x, v) -> x.light(0, 1, 7, v));
        takes("light, from ahead of 7", 0, 7, (x, v) -> x.light(0, 1, v, 7));
        takes("light, one hour", 0, 11, (x, v) -> x.light(0, 1, v, v));
    }

    private static void much() {
        on("", () -> Check.told("snow 1 200;man west 1 plain 0 0 0 0;"));
        takes("mend", 0, 99, (x, v) -> x.mend(0, 1, v));
        takes("lead", 1, 99, (x, v) -> x.lead(1, v, 0));
        takes("lead to a place", 1, 99, (x, v) -> x.lead(1, v, 21));
        refusesBelow("carry", 0, (x, v) -> x.carry(1, 2, v));
        for (int v = 0; v <= 202; v++) {
            check.due("carry " + v, made.get().carry(1, 2, v), v <= 200 ? v : SnowSentries.STATE);
        }
        check.due("carry the most", made.get().carry(1, 2, MOST), SnowSentries.STATE);
    }

    private static void going() {
        on("", SnowSentries::new);
        takes("go", 1, 12, (x, v) -> x.go(v));
        for (int now = 0; now <= 12; now++) {
            for (int n = 1; n <= 12; n++) {
                SnowSentries x = at(now);
                check.due("go " + n + " at " + now, x.go(n), now + n <= 12 ? now + n : SnowSentries.STATE);
                check.due("the hour behind go " + n + " at " + now, x.rule(1), now + n <= 12 ? now + n : now);
            }
        }
    }

    private static SnowSentries at(int hour) {
        SnowSentries x = Check.told("man west 0 shaded 1 1 1 1;house 0 0 west;");
        if (hour > 0) {
            x.go(hour);
        }
        return x;
    }

    /** "no less than the present one, 12 at most", and the k-th HOUR from now on of lead. */
    private static void fromNowOn(int now) {
        on(" at hour " + now, () -> at(now));
        takes("later", now, 12, (x, v) -> x.later(0, 0, v));
        takes("line", now, 12, (x, v) -> x.line(0, v));
        takes("houses", now, 12, (x, v) -> x.houses(0, v));
        takes("holds", now, 12, (x, v) -> x.holds(0, v));
        takes("need", now, 12, (x, v) -> x.need(0, 0, v));
        takes("crews", now, 12, (x, v) -> x.crews(0, v, 1, 0));
        takes("odds", now, 12, (x, v) -> x.odds(0, 0, v, 0));
        takes("lead, the hour", 10, 21 - now, (x, v) -> v == 0 ? BAD : x.lead(0, 1, v));
        check.due("lead, what 0" + land, made.get().lead(0, 1, 0), now == 12 ? SnowSentries.STATE : 1);
        for (int what = 1; what < 10; what++) {
            check.due("lead, what " + what + land, made.get().lead(0, 1, what), BAD);
        }
    }

    private static void whats() {
        on("", () -> {
            SnowSentries x = Check.told("man west 0 plain 1 1 1 1;man east 4 plain 1 1 1 1;brazier 0 1 0 0;house 0 0 west;sun 9;");
            x.felt(5);
            return x;
        });
        takes("furlong, what", 0, 3, (x, v) -> x.furlong(4, v));
        takes("man, what", 0, 5, (x, v) -> x.man(1, 4, v));
        takes("man, what of nobody", 0, 5, (x, v) -> x.man(1, 0, v));
        takes("brazier, what", 0, 3, (x, v) -> x.brazier(0, v));
        takes("house, what", 0, 2, (x, v) -> x.house(0, v));
        takes("crews, how many", 0, 10, (x, v) -> x.crews(0, 12, v, 0));
        takes("crews, what", 0, 2, (x, v) -> x.crews(0, 12, 10, v));
        takes("gap, what", 0, 1, (x, v) -> x.gap(0, v));
        takes("spy, what", 0, 2, (x, v) -> x.spy(v));
        takes("spies, what", 0, 2, (x, v) -> x.spies(v));
        takes("odds, what", 0, 1, (x, v) -> x.odds(0, 0, 12, v));
        takes("talks, what", 0, 1, (x, v) -> x.talks(v));
    }

    private static void imagesAndSheets() {
        on("", SnowSentries::new);
        takes("keep", 0, 1, (x, v) -> x.keep(v));
        takes("back", 0, 1, (x, v) -> x.back(v));
        takes("sheet", 0, 3, (x, v) -> x.sheet(v, 0, 1));
        takes("sheet, lane", 0, 2, (x, v) -> x.sheet(0, v, 1));
        takes("lay", 0, 3, (x, v) -> x.lay(v, 0, 1));
        takes("read", 0, 3, (x, v) -> x.read(v, 0, 0, 1));
        takes("read, lane", 0, 2, (x, v) -> x.read(0, v, 0, 1));
        takes("read, how many", 0, 12, (x, v) -> x.read(0, 0, 0, v));
        refusesAbove("sheet, cells", 40, (x, v) -> x.sheet(0, 0, v));
        for (int lane = 0; lane < 3; lane++) {
            for (int n = -3; n <= 40; n++) {
                check.due("sheet of " + n + " in lane " + lane, made.get().sheet(0, lane, n), n < 0 ? -14 : 1);
            }
            check.due("sheet of the least in lane " + lane, made.get().sheet(0, lane, LEAST), -14);
            for (int n : new int[] {0, 1, 7, 40}) {
                laidCells(lane, n);
            }
        }
    }

    private static void laidCells(int lane, int n) {
        for (int i : new int[] {LEAST, -41, -2, -1, 0, 1, n - 1, n, n + 1, 39, 40, 41, 256, 65536, MOST}) {
            SnowSentries x = new SnowSentries();
            x.sheet(3, lane, n);
            check.due("lay on " + i + " of " + n + " in lane " + lane, x.lay(3, i, 5), i >= 0 && i < n ? 1 : -12);
        }
    }
}
