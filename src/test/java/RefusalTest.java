import java.util.function.Supplier;
import java.util.function.ToLongFunction;

/**
 * "what is refused changes nothing (but THE TAPE, as told)", and "the first that fits": for each promise every kind of
 * refusal, and those calls for which two answers would fit. Behind each of them all that can be asked is as without it.
 */
public final class RefusalTest {
    private static final int BAD = SnowSentries.BAD, STATE = SnowSentries.STATE, FULL = SnowSentries.FULL, NONE = SnowSentries.NONE;
    private static final int LEAST = Integer.MIN_VALUE, MOST = Integer.MAX_VALUE;
    private static final Check check = new Check("RefusalTest");
    /** More than any of the objects below has had when it is handed out. */
    private static final int CALLS_SO_FAR = 110;

    private static Supplier<SnowSentries> made;
    private static String whole;

    public static void main(String[] args) {
        on(RefusalTest::rich);
        text();
        whatThereIs();
        whatIsChanged();
        hours();
        holding();
        spies();
        images();
        sheets();
        on(RefusalTest::full);
        whatIsFull();
        on(RefusalTest::atTwelve);
        whatIsTooLate();
        on(SnowSentries::new);
        whatIsEmpty();
        asked();
        check.finish();
    }

    private static void on(Supplier<SnowSentries> maker) {
        made = maker;
        whole = Whole.of(made.get(), CALLS_SO_FAR);
    }

    /** A call on such an object: its answer, and that nothing else is changed by it. */
    private static void refused(String call, long due, ToLongFunction<SnowSentries> ask) {
        SnowSentries x = made.get();
        check.due(call, ask.applyAsLong(x), due);
        check.dueText("all behind " + call, Whole.of(x, CALLS_SO_FAR + 1), whole);
    }

    /** A call that is only a question: whatever it answers, nothing is changed by it. */
    private static void changesNothing(String call, ToLongFunction<SnowSentries> ask) {
        SnowSentries x = made.get();
        ask.applyAsLong(x);
        check.dueText("all behind " + call, Whole.of(x, CALLS_SO_FAR + 1), whole);
    }

    /** Two FURLONGS with a bit of all, at HOUR 2, both IMAGES, three SHEETS, one FELT, a text on THE TAPE. */
    private static SnowSentries rich() {
        SnowSentries x = Check.told("furlongs 2;sun 1 2 3 4 5 6 7 8 9 0 1 2;frost 2 1;treaty 4 1 1;snow 0 90;snow 1 7;"
            + "man west 0 plain 10 20 60 2;man west 1 child 3 4 40 1 bare;man east 0 iced 5 6 70 3;"
            + "brazier 0 9 0 5;brazier 1 20 3 11;house 0 1 west;house 1 0 east;");
        x.keep(0);
        x.go(1);
        x.keep(1);
        x.go(1);
        x.chance(7);
        x.felt(5);
        x.sheet(0, 0, 3);
        x.lay(0, 0, 3);
        x.lay(0, 2, 8);
        x.sheet(1, 1, 1);
        x.sheet(2, 2, 2);
        x.lay(2, 1, 10);
        x.read(0, 0, 1, 3);
        x.feed(Check.word("snow 1 3", 0));
        x.feed(Check.word(";!      ", 0));
        x.land();
        x.feed(Check.word("snow 1 3", 0));
        x.feed(Check.word(";sun 8;x", 0));
        x.end(15);
        return x;
    }

    /** Six BRAZIERS, as much FELT as there are FURLONGS, THE TAPE full. */
    private static SnowSentries full() {
        SnowSentries x = Check.told("furlongs 1;snow 0 40;man west 0 plain 1 1 99 0;man east 0 plain 1 1 60 0;"
            + "brazier 0 1 0 0;".repeat(6) + "house 0 0 west;".repeat(8));
        x.felt(3);
        for (int n = 0; n < 50; n++) {
            x.feed(Check.word("        ", 0));
        }
        return x;
    }

    private static SnowSentries atTwelve() {
        SnowSentries x = Check.told("furlongs 2;sun 1;snow 0 40;man west 0 plain 1 1 99 0;brazier 0 1 0 0;house 0 0 west;");
        x.go(12);
        return x;
    }

    private static void text() {
        refused("end(16) of 15", BAD, x -> x.end(16));
        refused("end(-1)", BAD, x -> x.end(-1));
        refused("end(least)", BAD, x -> x.end(LEAST));
        refused("end(most)", BAD, x -> x.end(MOST));
        String head = "furlongs 9;sun 1;treaty 2 2 1;snow 1 9;man west 0 plain 1 1 1 1;man east 1 iced 1 1 1 1;brazier 0 1 0 0;house 1 1 east;";
        textRefused(head + "!", 1);
        textRefused(head + "moon", 2);
        textRefused(head + "frost 10", 3);
        textRefused(head + "sun", 4);
        textRefused(head + "brazier 0 1 0 0;".repeat(5) + "brazier", 5);
        textRefused(head + "snow 9 1;", 6);
    }

    /** A text with a FAULT: THE TAPE is empty, fault() tells of it; all else, what the text told so far too, is as without it. */
    private static void textRefused(String text, int fault) {
        SnowSentries without = rich();
        without.end(0);
        SnowSentries x = rich();
        x.end(0);
        Check.write(x, text);
        check.due("land of FAULT " + fault, x.land() <= -10 ? 1 : 0, 1);
        String was = "| now: " + without.fault() + " ";
        String due = Whole.of(without, CALLS_SO_FAR).replace(was, "| now: " + fault + " ");
        check.dueText("all behind a text of FAULT " + fault, Whole.of(x, CALLS_SO_FAR), due);
    }

    private static void whatThereIs() {
        refused("rule(6)", BAD, x -> x.rule(6));
        refused("rule(-1)", BAD, x -> x.rule(-1));
        refused("hour(12, 0)", BAD, x -> x.hour(12, 0));
        refused("hour(-1, 0)", BAD, x -> x.hour(-1, 0));
        refused("hour(0, 2)", BAD, x -> x.hour(0, 2));
        refused("furlong(2, 0)", BAD, x -> x.furlong(2, 0));
        refused("furlong(-1, 0)", BAD, x -> x.furlong(-1, 0));
        refused("furlong(0, 4)", BAD, x -> x.furlong(0, 4));
        refused("man(2, 0, 0)", BAD, x -> x.man(2, 0, 0));
        refused("man(0, 2, 0)", BAD, x -> x.man(0, 2, 0));
        refused("man(0, 0, 6)", BAD, x -> x.man(0, 0, 6));
        refused("man(1, 1, 0), nobody", NONE, x -> x.man(1, 1, 0));
        refused("man(1, 1, 5), nobody", NONE, x -> x.man(1, 1, 5));
        refused("man(1, 1, 6), BAD and NONE", BAD, x -> x.man(1, 1, 6));
        refused("man(1, 1, -1), BAD and NONE", BAD, x -> x.man(1, 1, -1));
        refused("brazier(2, 0)", BAD, x -> x.brazier(2, 0));
        refused("brazier(0, 4)", BAD, x -> x.brazier(0, 4));
        refused("house(2, 0)", BAD, x -> x.house(2, 0));
        refused("house(0, 3)", BAD, x -> x.house(0, 3));
    }

    private static void whatIsChanged() {
        refused("shine(12, 1)", BAD, x -> x.shine(12, 1));
        refused("shine(-1, 1)", BAD, x -> x.shine(-1, 1));
        refused("shine(3, 10)", BAD, x -> x.shine(3, 10));
        refused("shine(3, -1)", BAD, x -> x.shine(3, -1));
        refused("treaty(0, 0)", BAD, x -> x.treaty(0, 0));
        refused("treaty(0, 100)", BAD, x -> x.treaty(0, 100));
        refused("treaty(1, -1)", BAD, x -> x.treaty(1, -1));
        refused("treaty(1, 4)", BAD, x -> x.treaty(1, 4));
        refused("treaty(2, -1)", BAD, x -> x.treaty(2, -1));
        refused("treaty(2, 2)", BAD, x -> x.treaty(2, 2));
        refused("treaty(3, 1)", BAD, x -> x.treaty(3, 1));
        refused("treaty(-1, 1)", BAD, x -> x.treaty(-1, 1));
        refused("chance(11)", BAD, x -> x.chance(11));
        refused("chance(-1)", BAD, x -> x.chance(-1));
        refused("light(2, 1, 0, 0)", BAD, x -> x.light(2, 1, 0, 0));
        refused("light(0, 0, 0, 0)", BAD, x -> x.light(0, 0, 0, 0));
        refused("light(0, 21, 0, 0)", BAD, x -> x.light(0, 21, 0, 0));
        refused("light(0, 1, -1, 0)", BAD, x -> x.light(0, 1, -1, 0));
        refused("light(0, 1, 12, 12)", BAD, x -> x.light(0, 1, 12, 12));
        refused("light(0, 1, 0, 12)", BAD, x -> x.light(0, 1, 0, 12));
        refused("light(0, 1, 5, 4)", BAD, x -> x.light(0, 1, 5, 4));
        refused("quench(2)", BAD, x -> x.quench(2));
        refused("quench(-1)", BAD, x -> x.quench(-1));
        mends();
        carries();
    }

    /** What lies on FURLONG 0 is 72, HEAD of the man of SIDE 0 there 39, of SIDE 1 60; nobody of SIDE 1 on FURLONG 1. */
    private static void mends() {
        SnowSentries x = rich();
        check.due("snow of rich", x.furlong(0, 0), 72);
        check.due("head of rich, west", x.man(0, 0, 3), 39);
        check.due("head of rich, east", x.man(1, 0, 3), 60);
        refused("mend(2, 0, 1)", BAD, y -> y.mend(2, 0, 1));
        refused("mend(0, 2, 1)", BAD, y -> y.mend(0, 2, 1));
        refused("mend(0, 0, -1)", BAD, y -> y.mend(0, 0, -1));
        refused("mend(0, 0, 100), BAD, STATE and FULL", BAD, y -> y.mend(0, 0, 100));
        refused("mend(1, 1, 0), nobody", NONE, y -> y.mend(1, 1, 0));
        refused("mend(1, 1, 99), NONE ahead of STATE", NONE, y -> y.mend(1, 1, 99));
        refused("mend(1, 1, 100), BAD and NONE", BAD, y -> y.mend(1, 1, 100));
        refused("mend(1, 1, -1), BAD and NONE", BAD, y -> y.mend(1, 1, -1));
        refused("mend(0, 0, 73), STATE and FULL", STATE, y -> y.mend(0, 0, 73));
        refused("mend(1, 0, 73), STATE and FULL", STATE, y -> y.mend(1, 0, 73));
        refused("mend(0, 0, 61), FULL alone", FULL, y -> y.mend(0, 0, 61));
        refused("mend(1, 0, 40), FULL alone", FULL, y -> y.mend(1, 0, 40));
        refused("mend(1, 0, 72), FULL alone", FULL, y -> y.mend(1, 0, 72));
        check.due("the last that is taken, west", rich().mend(0, 0, 60), 99);
        check.due("the last that is taken, east", rich().mend(1, 0, 39), 99);
    }

    private static void carries() {
        refused("carry(0, 0, 1), itself", BAD, x -> x.carry(0, 0, 1));
        refused("carry(0, 2, 1), not there", BAD, x -> x.carry(0, 2, 1));
        refused("carry(1, 2, 1), next to it but not there", BAD, x -> x.carry(1, 2, 1));
        refused("carry(0, -1, 1), next to it but not there", BAD, x -> x.carry(0, -1, 1));
        refused("carry(2, 1, 1), from where there is none", BAD, x -> x.carry(2, 1, 1));
        refused("carry(-1, 0, 1), from where there is none", BAD, x -> x.carry(-1, 0, 1));
        refused("carry(0, 1, -1)", BAD, x -> x.carry(0, 1, -1));
        refused("carry(0, 1, least)", BAD, x -> x.carry(0, 1, LEAST));
        refused("carry(0, 1, 73)", STATE, x -> x.carry(0, 1, 73));
        check.due("the last that is carried", rich().carry(0, 1, 72), 73);
        refused("carry(0, 1, most)", STATE, x -> x.carry(0, 1, MOST));
        refused("carry(0, 0, 73), BAD and STATE", BAD, x -> x.carry(0, 0, 73));
        refused("carry(0, 2, most), BAD and STATE", BAD, x -> x.carry(0, 2, MOST));
    }

    private static void hours() {
        refused("heat(2, 0, true)", BAD, x -> x.heat(2, 0, true));
        refused("heat(0, 12, false)", BAD, x -> x.heat(0, 12, false));
        refused("go(0)", BAD, x -> x.go(0));
        refused("go(-1)", BAD, x -> x.go(-1));
        refused("go(13), BAD and STATE", BAD, x -> x.go(13));
        refused("go(most), BAD and STATE", BAD, x -> x.go(MOST));
        refused("go(11) at 2", STATE, x -> x.go(11));
        refused("go(12) at 2", STATE, x -> x.go(12));
        refused("later(2, 0, 5)", BAD, x -> x.later(2, 0, 5));
        refused("later(0, 2, 5)", BAD, x -> x.later(0, 2, 5));
        refused("later(0, 0, 1) at 2", BAD, x -> x.later(0, 0, 1));
        refused("later(0, 0, 13)", BAD, x -> x.later(0, 0, 13));
        refused("later(1, 1, 5), nobody", NONE, x -> x.later(1, 1, 5));
        refused("later(1, 1, 1), BAD and NONE", BAD, x -> x.later(1, 1, 1));
        refused("later(1, 1, 13), BAD and NONE", BAD, x -> x.later(1, 1, 13));
        refused("line(2, 5)", BAD, x -> x.line(2, 5));
        refused("line(0, 1) at 2", BAD, x -> x.line(0, 1));
        refused("line(0, 13)", BAD, x -> x.line(0, 13));
        refused("houses(2, 5)", BAD, x -> x.houses(2, 5));
        refused("houses(0, 1) at 2", BAD, x -> x.houses(0, 1));
        refused("houses(0, 13)", BAD, x -> x.houses(0, 13));
    }

    private static void holding() {
        refused("holds(2, 5)", BAD, x -> x.holds(2, 5));
        refused("holds(0, 1) at 2", BAD, x -> x.holds(0, 1));
        refused("holds(0, 13)", BAD, x -> x.holds(0, 13));
        refused("need(2, 0, 5)", BAD, x -> x.need(2, 0, 5));
        refused("need(0, 2, 5)", BAD, x -> x.need(0, 2, 5));
        refused("need(0, 0, 1) at 2", BAD, x -> x.need(0, 0, 1));
        refused("need(0, 0, 13)", BAD, x -> x.need(0, 0, 13));
        refused("need(1, 1, 5), nobody", NONE, x -> x.need(1, 1, 5));
        refused("need(1, 1, 13), BAD and NONE", BAD, x -> x.need(1, 1, 13));
        refused("need(0, 1, 2), bare: it can not be", NONE, x -> x.need(0, 1, 2));
        refused("need(0, 1, 1), BAD and NONE", BAD, x -> x.need(0, 1, 1));
        refused("crews(2, 5, 1, 0)", BAD, x -> x.crews(2, 5, 1, 0));
        refused("crews(0, 1, 1, 0) at 2", BAD, x -> x.crews(0, 1, 1, 0));
        refused("crews(0, 13, 1, 0)", BAD, x -> x.crews(0, 13, 1, 0));
        refused("crews(0, 5, -1, 0)", BAD, x -> x.crews(0, 5, -1, 0));
        refused("crews(0, 5, 11, 0)", BAD, x -> x.crews(0, 5, 11, 0));
        refused("crews(0, 5, 1, 3)", BAD, x -> x.crews(0, 5, 1, 3));
        refused("gap(2, 0)", BAD, x -> x.gap(2, 0));
        refused("gap(0, 2)", BAD, x -> x.gap(0, 2));
        refused("lead(2, 9, 0)", BAD, x -> x.lead(2, 9, 0));
        refused("lead(0, 0, 0)", BAD, x -> x.lead(0, 0, 0));
        refused("lead(0, 100, 0)", BAD, x -> x.lead(0, 100, 0));
        refused("lead(0, 9, 1)", BAD, x -> x.lead(0, 9, 1));
        refused("lead(0, 9, 9)", BAD, x -> x.lead(0, 9, 9));
        refused("lead(0, 9, 20) at 2: ten HOURS are left", BAD, x -> x.lead(0, 9, 20));
        refused("lead(0, 9, most)", BAD, x -> x.lead(0, 9, MOST));
        refused("lead(0, 9, least)", BAD, x -> x.lead(0, 9, LEAST));
    }

    private static void spies() {
        refused("felt(100)", BAD, x -> x.felt(100));
        refused("felt(-1)", BAD, x -> x.felt(-1));
        refused("spy(3)", BAD, x -> x.spy(3));
        refused("spies(3)", BAD, x -> x.spies(3));
        refused("odds(2, 0, 5, 0)", BAD, x -> x.odds(2, 0, 5, 0));
        refused("odds(0, 2, 5, 0)", BAD, x -> x.odds(0, 2, 5, 0));
        refused("odds(0, 0, 1, 0) at 2", BAD, x -> x.odds(0, 0, 1, 0));
        refused("odds(0, 0, 13, 0)", BAD, x -> x.odds(0, 0, 13, 0));
        refused("odds(0, 0, 5, 2)", BAD, x -> x.odds(0, 0, 5, 2));
        refused("odds(1, 1, 5, 0), nobody", NONE, x -> x.odds(1, 1, 5, 0));
        refused("odds(1, 1, 5, 1), nobody", NONE, x -> x.odds(1, 1, 5, 1));
        refused("odds(1, 1, 5, 2), BAD and NONE", BAD, x -> x.odds(1, 1, 5, 2));
        refused("odds(1, 1, 13, 0), BAD and NONE", BAD, x -> x.odds(1, 1, 13, 0));
        refused("talks(2)", BAD, x -> x.talks(2));
        refused("strength(2)", BAD, x -> x.strength(2));
    }

    private static void images() {
        refused("keep(2)", BAD, x -> x.keep(2));
        refused("keep(-1)", BAD, x -> x.keep(-1));
        refused("back(2)", BAD, x -> x.back(2));
        refused("back(-1)", BAD, x -> x.back(-1));
        refused("count(7)", BAD, x -> x.count(7));
        refused("count(-1)", BAD, x -> x.count(-1));
    }

    private static void sheets() {
        refused("sheet(4, 0, 1)", BAD, x -> x.sheet(4, 0, 1));
        refused("sheet(-1, 0, 1)", BAD, x -> x.sheet(-1, 0, 1));
        refused("sheet(0, 3, 1)", BAD, x -> x.sheet(0, 3, 1));
        refused("sheet(0, -1, 1)", BAD, x -> x.sheet(0, -1, 1));
        refused("sheet(0, 0, 41)", BAD, x -> x.sheet(0, 0, 41));
        refused("sheet(0, 1, -1), SIZE", -14, x -> x.sheet(0, 1, -1));
        refused("sheet(3, 1, -1), SIZE", -14, x -> x.sheet(3, 1, -1));
        refused("sheet(4, 0, -1), BAD and SIZE", BAD, x -> x.sheet(4, 0, -1));
        refused("sheet(0, 3, -1), BAD and SIZE", BAD, x -> x.sheet(0, 3, -1));
        refused("lay(4, 0, 1)", BAD, x -> x.lay(4, 0, 1));
        refused("lay(-1, 0, 1)", BAD, x -> x.lay(-1, 0, 1));
        refused("lay(3, 0, 1), NULL", -11, x -> x.lay(3, 0, 1));
        refused("lay(3, -1, 1), NULL and INDEX", -11, x -> x.lay(3, -1, 1));
        refused("lay(0, 3, 1), INDEX", -12, x -> x.lay(0, 3, 1));
        refused("lay(0, -1, 1), INDEX", -12, x -> x.lay(0, -1, 1));
        refused("lay(4, -1, 1), BAD and INDEX", BAD, x -> x.lay(4, -1, 1));
        refused("read(4, 0, 0, 1)", BAD, x -> x.read(4, 0, 0, 1));
        refused("read(-1, 0, 0, 1)", BAD, x -> x.read(-1, 0, 0, 1));
        refused("read(0, 3, 0, 1)", BAD, x -> x.read(0, 3, 0, 1));
        refused("read(0, -1, 0, 1)", BAD, x -> x.read(0, -1, 0, 1));
        refused("read(0, 0, 0, 13)", BAD, x -> x.read(0, 0, 0, 13));
        refused("read(0, 0, 0, -1)", BAD, x -> x.read(0, 0, 0, -1));
        refused("read(2, 2, 1, 1), no SUN", -20, x -> x.read(2, 2, 1, 1));
        refused("read(2, 2, 0, 2), no SUN", -21, x -> x.read(2, 2, 0, 2));
        refused("read(2, 2, 0, 12), no SUN ahead of INDEX", -21, x -> x.read(2, 2, 0, 12));
        refused("read(2, 2, 1, 13), BAD and no SUN", BAD, x -> x.read(2, 2, 1, 13));
    }

    private static void whatIsFull() {
        refused("feed on 400", FULL, x -> x.feed(0));
        refused("feed on 400", FULL, x -> x.feed(-1L));
        refused("a 7th brazier", FULL, x -> x.light(0, 1, 0, 0));
        refused("a 7th brazier on 1, BAD and FULL", BAD, x -> x.light(1, 1, 0, 0));
        refused("a 7th brazier of 0, BAD and FULL", BAD, x -> x.light(0, 0, 0, 0));
        refused("a 7th brazier of 21, BAD and FULL", BAD, x -> x.light(0, 21, 0, 0));
        refused("a 7th brazier till 12, BAD and FULL", BAD, x -> x.light(0, 1, 0, 12));
        refused("a 7th brazier from 1 to 0, BAD and FULL", BAD, x -> x.light(0, 1, 1, 0));
        refused("brazier(6, 0)", BAD, x -> x.brazier(6, 0));
        refused("quench(6)", BAD, x -> x.quench(6));
        refused("house(8, 0)", BAD, x -> x.house(8, 0));
        refused("felt as often as there are FURLONGS", FULL, x -> x.felt(0));
        refused("felt(100), BAD and FULL", BAD, x -> x.felt(100));
        refused("felt(-1), BAD and FULL", BAD, x -> x.felt(-1));
        refused("mend(0, 0, 1) on 99", FULL, x -> x.mend(0, 0, 1));
        refused("mend(0, 0, 40) on 99", FULL, x -> x.mend(0, 0, 40));
        refused("mend(0, 0, 41) on 99, STATE and FULL", STATE, x -> x.mend(0, 0, 41));
        refused("mend(1, 0, 40) on 60", FULL, x -> x.mend(1, 0, 40));
        refused("carry(0, 1, 1): there is one FURLONG", BAD, x -> x.carry(0, 1, 1));
        refused("back(0): no IMAGE", STATE, x -> x.back(0));
        refused("back(1): no IMAGE", STATE, x -> x.back(1));
    }

    private static void whatIsTooLate() {
        refused("go(1) at 12", STATE, x -> x.go(1));
        refused("go(12) at 12", STATE, x -> x.go(12));
        refused("go(0) at 12, BAD and STATE", BAD, x -> x.go(0));
        refused("go(13) at 12, BAD and STATE", BAD, x -> x.go(13));
        refused("lead(0, 9, 0) at 12", STATE, x -> x.lead(0, 9, 0));
        refused("lead(0, 9, 10) at 12: no such HOUR", BAD, x -> x.lead(0, 9, 10));
        refused("lead(0, 9, 21) at 12: no such HOUR", BAD, x -> x.lead(0, 9, 21));
        refused("lead(0, 9, 1) at 12", BAD, x -> x.lead(0, 9, 1));
        refused("lead(2, 9, 0) at 12, BAD and STATE", BAD, x -> x.lead(2, 9, 0));
        refused("lead(0, 0, 0) at 12, BAD and STATE", BAD, x -> x.lead(0, 0, 0));
        refused("lead(0, 100, 0) at 12, BAD and STATE", BAD, x -> x.lead(0, 100, 0));
        refused("later(0, 0, 11) at 12", BAD, x -> x.later(0, 0, 11));
        refused("line(0, 11) at 12", BAD, x -> x.line(0, 11));
        refused("houses(0, 11) at 12", BAD, x -> x.houses(0, 11));
        refused("holds(0, 11) at 12", BAD, x -> x.holds(0, 11));
        refused("need(0, 0, 11) at 12", BAD, x -> x.need(0, 0, 11));
        refused("crews(0, 11, 0, 0) at 12", BAD, x -> x.crews(0, 11, 0, 0));
        refused("odds(0, 0, 11, 0) at 12", BAD, x -> x.odds(0, 0, 11, 0));
        refused("gap(0, 0) at 12", NONE, x -> x.gap(0, 0));
        refused("gap(0, 1) at 12", NONE, x -> x.gap(0, 1));
        refused("gap(0, 2) at 12, BAD and NONE", BAD, x -> x.gap(0, 2));
        refused("gap(2, 0) at 12, BAD and NONE", BAD, x -> x.gap(2, 0));
        refused("talks(0): one man alone with a HEAD of 97", 98, x -> x.talks(0));
    }

    private static void whatIsEmpty() {
        refused("end(1) of an empty TAPE", BAD, x -> x.end(1));
        refused("end(0) of an empty TAPE", 0, x -> x.end(0));
        refused("brazier(0, 0) of none", BAD, x -> x.brazier(0, 0));
        refused("quench(0) of none", BAD, x -> x.quench(0));
        refused("house(0, 0) of none", BAD, x -> x.house(0, 0));
        refused("spy(0), nothing FELT", STATE, x -> x.spy(0));
        refused("spy(1), STATE and NONE", STATE, x -> x.spy(1));
        refused("spy(2), STATE and NONE", STATE, x -> x.spy(2));
        refused("spy(3), BAD and STATE", BAD, x -> x.spy(3));
        refused("spy(-1), BAD and STATE", BAD, x -> x.spy(-1));
        refused("spies(0), nothing FELT", STATE, x -> x.spies(0));
        refused("spies(1), STATE and NONE", STATE, x -> x.spies(1));
        refused("spies(2), STATE and NONE", STATE, x -> x.spies(2));
        refused("spies(3), BAD and STATE", BAD, x -> x.spies(3));
        refused("spies(-1), BAD and STATE", BAD, x -> x.spies(-1));
        refused("back(0)", STATE, x -> x.back(0));
        refused("back(1)", STATE, x -> x.back(1));
        refused("back(2), BAD and STATE", BAD, x -> x.back(2));
        refused("back(-1), BAD and STATE", BAD, x -> x.back(-1));
        refused("gap(0, 0) of nobody", NONE, x -> x.gap(0, 0));
        refused("gap(0, 2), BAD and NONE", BAD, x -> x.gap(0, 2));
        refused("lay(0, 0, 0), NULL", -11, x -> x.lay(0, 0, 0));
        refused("forget nothing", 0, x -> x.forget());
        refused("dawn at 0", 0, x -> x.dawn());
        refused("count(6) of nothing", NONE, x -> x.count(6));
        refused("mend(0, 0, 0) of nobody", NONE, x -> x.mend(0, 0, 0));
        refused("mend(0, 0, 1) of nobody, NONE ahead of STATE", NONE, x -> x.mend(0, 0, 1));
        refused("carry(0, 1, 1) of nothing", STATE, x -> x.carry(0, 1, 1));
        refused("carry(0, 1, 0) of nothing", 0, x -> x.carry(0, 1, 0));
    }

    /** "By itself (as it would be; nothing is changed)", and all other calls that only ask. */
    private static void asked() {
        on(RefusalTest::rich);
        for (int n = 0; n < 13; n++) {
            int h = n;
            changesNothing("later", x -> x.later(0, 1, h));
            changesNothing("line", x -> x.line(0, h));
            changesNothing("houses", x -> x.houses(1, h));
            changesNothing("holds", x -> x.holds(0, h));
            changesNothing("need", x -> x.need(0, 0, h));
            changesNothing("crews", x -> x.crews(0, h, 10, 2));
            changesNothing("odds", x -> x.odds(0, 0, h, 1));
            changesNothing("lead", x -> x.lead(0, 99, 10 + h));
            changesNothing("heat", x -> x.heat(1, h, true));
        }
        changesNothing("gap", x -> x.gap(0, 0));
        changesNothing("gap", x -> x.gap(1, 1));
        changesNothing("lead", x -> x.lead(1, 50, 0));
        changesNothing("spy", x -> x.spy(1));
        changesNothing("spies", x -> x.spies(1));
        changesNothing("talks", x -> x.talks(0));
        changesNothing("strength", x -> x.strength(0));
        changesNothing("all", x -> x.all());
        changesNothing("torn", x -> x.torn());
        changesNothing("fault", x -> x.fault());
        changesNothing("end with all that there is", x -> x.end(15));
        changesNothing("mend of 0", x -> x.mend(0, 0, 0));
        changesNothing("carry of 0", x -> x.carry(0, 1, 0));
        changesNothing("shine as it is", x -> x.shine(4, 5));
        changesNothing("treaty as it is", x -> x.treaty(0, 4));
        changesNothing("chance as it is", x -> x.chance(7));
    }
}
