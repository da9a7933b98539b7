/** Promises 26 to 37 with section 2: each sentence that names an edge of HOLDS, NEED, crews, gaps, WAYS, FELT, the FORECAST, talks. */
public final class HoldingEdgesTest {
    private static final int BAD = SnowSentries.BAD, STATE = SnowSentries.STATE, FULL = SnowSentries.FULL, NONE = SnowSentries.NONE;
    private static final Check check = new Check("HoldingEdgesTest");

    public static void main(String[] args) {
        holdsNowAndBehindEachHour();
        holdsByHisKind();
        holdsByEachDemand();
        needOfALeastSnow();
        need99InAll();
        needOfNobody();
        crewsAtTheMost();
        crewsOneOrMore();
        crewsNoMoreThanLiesThere();
        crewsTheLeastSnowTheLeastBits();
        crewsOfNobody();
        gapTheLeastHour();
        gapTheLeastFurlong();
        gapOfNobody();
        leadTheMost();
        leadTheFirstByFurlongs();
        leadIfNothingLasts();
        leadAnHourThatThereIsNot();
        leadAtTheEnds();
        feltAsManyAsFurlongs();
        spyAlone();
        spyTheFirst();
        spiesOnUnlikeFurlongs();
        spiesTheFirst();
        oddsByChance();
        oddsInLowestTerms();
        oddsOfOneMore();
        oddsOfWhoDoesNotCount();
        talksTheLeast();
        strengthOfASide();
        check.finish();
    }

    private static String bits(int bits) {
        return Integer.toBinaryString(bits);
    }

    private static void dueHolds(String name, SnowSentries x, int side, int t, int due) {
        check.dueText(name + ": holds " + side + " till " + t, bits(x.holds(side, t)), bits(due));
    }

    /** "a MAN that COUNTS now and behind each HOUR up to t less 1 (by himself; from the present HOUR on)". */
    private static void holdsNowAndBehindEachHour() {
        SnowSentries x = Check.told("treaty 5 0 0;sun 0 1 0 1 0 0 0 0 0 0 0 1;man west 0 plain 0 0 4 0;man west 1 plain 0 0 5 0;man west 2 plain 0 0 6 0;man west 3 plain 0 0 7 0;man west 4 plain 0 0 8 0;");
        int[] due = {30, 30, 28, 28, 24, 24, 24, 24, 24, 24, 24, 24, 16};
        for (int t = 0; t <= 12; t++) {
            dueHolds("at 0", x, 0, t, due[t]);
            dueHolds("nobody", x, 1, t, 0);
        }
        for (int now = 1; now <= 12; now++) {
            x.go(1);
            for (int t = now; t <= 12; t++) {
                dueHolds("at " + now, x, 0, t, due[t]);
            }
            check.due("behind it", x.holds(0, now - 1), BAD);
        }
        // All ten FURLONGS, on both sides.
        SnowSentries y = Check.told("furlongs 10;man west 0 plain 0 0 1 0;man west 9 plain 0 0 1 0;man east 9 plain 0 0 1 0;");
        dueHolds("ten", y, 0, 12, 1 | 1 << 9);
        dueHolds("ten", y, 1, 12, 1 << 9);
    }

    private static void holdsByHisKind() {
        SnowSentries x = Check.told("sun 5 5;brazier 4 3 1 1;man west 0 plain 9 9 9 0;man west 1 iced 0 0 4 0;man west 2 shaded 0 0 1 0;man west 3 packed 0 0 4 0;man west 4 shaded 0 0 3 0;"
            + "man east 0 child 9 9 6 0;man east 1 iced 0 0 5 0;man east 3 packed 0 0 5 0;man east 4 shaded 0 0 4 0;");
        dueHolds("kinds", x, 0, 1, 31);
        dueHolds("kinds", x, 0, 2, 4);
        dueHolds("kinds", x, 1, 1, 1 | 2 | 8 | 16);
        dueHolds("kinds", x, 1, 2, 2 | 8 | 16);
    }

    private static void holdsByEachDemand() {
        SnowSentries x = Check.told("treaty 1 2 1;man west 0 shaded 0 0 9 2;man west 1 shaded 0 0 9 1;man west 2 shaded 0 0 9 3 bare;man west 3 shaded 0 0 0 3;");
        dueHolds("eyes and uniforms", x, 0, 12, 1);
        x.treaty(2, 0);
        dueHolds("eyes", x, 0, 12, 5);
        x.treaty(1, 1);
        dueHolds("fewer eyes", x, 0, 12, 7);
        x.treaty(1, 3);
        dueHolds("more eyes", x, 0, 12, 4);
    }

    /** "NEED: the least snow (0 to 99) on his HEAD (99 in all at most) by which he does." */
    private static void needOfALeastSnow() {
        String[] kinds = {"plain", "iced", "shaded", "packed", "child"};
        int[] loss = {5, 2, 3, 2, 5};
        for (int kind = 0; kind < 5; kind++) {
            for (int head = 0; head <= 20; head++) {
                SnowSentries x = Check.told("treaty 4 0 0;sun 2 2;brazier 0 3 0 1;snow 0 99;man east 0 " + kinds[kind] + " 9 9 " + head + " 0;");
                for (int t = 0; t <= 2; t++) {
                    int due = Math.max(0, 4 + t * loss[kind] - head);
                    check.due("need of " + kinds[kind] + " " + head + " till " + t, x.need(1, 0, t), due);
                    check.due("who needs none holds", x.holds(1, t), due == 0 ? 1 : 0);
                }
                int need = x.need(1, 0, 2);
                x.mend(1, 0, need);
                check.due("mended by it he holds", x.holds(1, 2), 1);
                check.due("he needs no more", x.need(1, 0, 2), 0);
                if (need > 0) {
                    SnowSentries less = Check.told("treaty 4 0 0;sun 2 2;brazier 0 3 0 1;snow 0 99;man east 0 " + kinds[kind] + " 9 9 " + head + " 0;");
                    less.mend(1, 0, need - 1);
                    check.due("by one less he does not", less.holds(1, 2), 0);
                }
            }
        }
    }

    private static void need99InAll() {
        for (int head : new int[] {0, 1, 50, 98, 99}) {
            SnowSentries x = Check.told("sun 9 9 9 9 9 9 9 9 9 9 9 9;man west 0 plain 99 99 " + head + " 0;");
            for (int t = 0; t <= 12; t++) {
                int lack = Math.max(0, 1 + 9 * t - head);
                check.due("need of " + head + " till " + t, x.need(0, 0, t), head + lack > 99 ? NONE : lack);
            }
            x.treaty(0, 99);
            check.due("99 now", x.need(0, 0, 0), 99 - head);
            check.due("99 till 1", x.need(0, 0, 1), NONE);
        }
        // 9 by 10 is 90: a TREATY of 9 needs 99, one of 10 needs 100.
        SnowSentries x = Check.told("sun 9 9 9 9 9 9 9 9 9 9;treaty 9 0 0;man west 0 plain 0 0 0 0;man east 0 plain 0 0 99 0;");
        check.due("99", x.need(0, 0, 10), 99);
        check.due("he has it", x.need(1, 0, 10), 0);
        x.treaty(0, 10);
        check.due("100", x.need(0, 0, 10), NONE);
        check.due("99 is not enough", x.need(1, 0, 10), NONE);
        check.due("till 9", x.need(1, 0, 9), 0);
        // More SNOW than lies there may be needed: NEED does not ask for it.
        check.due("none lies there", x.need(0, 0, 1), 19);
    }

    /** "NONE: nobody is there, it can not be." */
    private static void needOfNobody() {
        SnowSentries x = Check.told("treaty 1 2 1;man west 0 plain 0 0 9 1;man west 1 plain 0 0 9 2 bare;man west 2 plain 0 0 9 2;");
        check.due("too few eyes", x.need(0, 0, 0), NONE);
        check.due("bare", x.need(0, 1, 0), NONE);
        check.due("neither", x.need(0, 2, 0), 0);
        check.due("nobody", x.need(0, 3, 0), NONE);
        check.due("nobody of that side", x.need(1, 2, 0), NONE);
        check.due("no such furlong", x.need(1, 5, 0), BAD);
    }

    private static void dueCrews(String name, SnowSentries x, int n, int... due) {
        for (int what = 0; what < 3; what++) {
            check.due(name + ", " + n + " crews, what " + what, x.crews(0, 1, n, what), due[what]);
        }
    }

    /** "With n crews (0 to 10) at the most". */
    private static void crewsAtTheMost() {
        StringBuilder text = new StringBuilder("furlongs 10;treaty 9 0 0;");
        for (int i = 0; i < 10; i++) {
            text.append("snow ").append(i).append(" 99;man west ").append(i).append(" plain 0 0 ").append(9 - i).append(" 0;");
        }
        SnowSentries x = Check.told(text.toString());
        // NEEDS are 0 to 9: the first holds by himself.
        int snow = 0;
        for (int n = 0; n <= 10; n++) {
            int mended = Math.min(n, 9);
            snow += n <= 9 ? n : 0;
            dueCrews("ten", x, n, 1 + mended, snow, (1 << mended + 1) - 2);
        }
        check.due("eleven crews", x.crews(0, 1, 11, 0), BAD);
    }

    /** "each for one MAN whose NEED is 1 or more": who holds by himself has no crew. */
    private static void crewsOneOrMore() {
        SnowSentries x = Check.told("snow 0 9;snow 1 9;man west 0 plain 0 0 1 0;man west 1 plain 0 0 0 0;");
        dueCrews("one needs none", x, 0, 1, 0, 0);
        dueCrews("one needs none", x, 1, 2, 1, 2);
        dueCrews("one needs none", x, 10, 2, 1, 2);
        SnowSentries y = Check.told("snow 0 9;snow 1 9;man west 0 plain 0 0 1 0;man west 1 plain 0 0 1 0;");
        dueCrews("nobody needs any", y, 10, 2, 0, 0);
    }

    /** "and no more than SNOW that lies there". */
    private static void crewsNoMoreThanLiesThere() {
        SnowSentries x = Check.told("treaty 10 0 0;snow 0 3;snow 1 4;snow 2 5;man west 0 plain 0 0 6 0;man west 1 plain 0 0 6 0;man west 2 plain 0 0 6 0;man west 3 plain 0 0 9 0;");
        dueCrews("4 are needed", x, 10, 2, 8, 6);
        x.carry(1, 0, 1);
        dueCrews("carried", x, 10, 2, 8, 5);
        check.due("nothing is changed", x.furlong(0, 0), 4);
        check.due("nothing is changed", x.man(0, 0, 3), 6);
        // Who can not be mended at all: NONE is no NEED.
        SnowSentries y = Check.told("treaty 1 1 0;snow 0 200;snow 1 200;man west 0 plain 0 0 0 0;man west 1 plain 0 0 0 1;");
        dueCrews("without eyes", y, 10, 1, 1, 2);
        SnowSentries z = Check.told("treaty 99 0 0;sun 1;snow 0 200;man west 0 plain 0 0 0 0;");
        dueCrews("100 are needed", z, 10, 0, 0, 0);
        SnowSentries all = Check.told("treaty 99 0 0;snow 0 99;man west 0 plain 0 0 0 0;");
        dueCrews("99 are needed, 99 lie there", all, 10, 1, 99, 1);
        SnowSentries one = Check.told("treaty 99 0 0;snow 0 98;man west 0 plain 0 0 0 0;");
        dueCrews("99 are needed, 98 lie there", one, 10, 0, 0, 0);
    }

    /** "the least snow for that (1), FURLONGS of these crews, of several the least bits (2)". */
    private static void crewsTheLeastSnowTheLeastBits() {
        SnowSentries x = Check.told("treaty 9 0 0;snow 0 9;snow 1 9;snow 2 9;snow 3 9;snow 4 9;man west 0 plain 0 0 2 0;man west 1 plain 0 0 5 0;man west 2 plain 0 0 6 0;man west 3 plain 0 0 5 0;man west 4 plain 0 0 5 0;");
        dueCrews("needs 7 4 3 4 4", x, 0, 0, 0, 0);
        dueCrews("needs 7 4 3 4 4", x, 1, 1, 3, 4);
        dueCrews("needs 7 4 3 4 4", x, 2, 2, 7, 6);
        dueCrews("needs 7 4 3 4 4", x, 3, 3, 11, 14);
        dueCrews("needs 7 4 3 4 4", x, 4, 4, 15, 30);
        dueCrews("needs 7 4 3 4 4", x, 5, 5, 22, 31);
        SnowSentries alike = Check.told("treaty 9 0 0;snow 1 9;snow 2 9;snow 4 9;man west 1 plain 0 0 5 0;man west 2 plain 0 0 5 0;man west 4 plain 0 0 5 0;");
        dueCrews("alike", alike, 1, 1, 4, 2);
        dueCrews("alike", alike, 2, 2, 8, 6);
        dueCrews("alike", alike, 3, 3, 12, 22);
    }

    private static void crewsOfNobody() {
        SnowSentries x = Check.told("snow 0 9;man east 0 plain 0 0 0 0;");
        for (int n = 0; n <= 10; n += 5) {
            dueCrews("nobody", x, n, 0, 0, 0);
        }
        check.due("of the other side", x.crews(1, 12, 1, 2), 1);
        x.go(12);
        check.due("at 12", x.crews(1, 12, 1, 1), 1);
    }

    private static void dueGap(String name, SnowSentries x, int hour, int furlong) {
        check.due(name + ", hour", x.gap(0, 0), hour);
        check.due(name + ", furlong", x.gap(0, 1), furlong);
    }

    /** "The least HOUR t till which not all MEN of a SIDE that COUNT now HOLD (what 0)"; "NONE: till 12 all do." */
    private static void gapTheLeastHour() {
        for (int h = 0; h < 12; h++) {
            SnowSentries x = Check.told("man west 3 plain 9 9 1 0;man west 4 shaded 0 0 1 0;");
            x.shine(h, 1);
            dueGap("sun in " + h, x, h + 1, 3);
            if (h > 0) {
                x.go(h);
                dueGap("sun in " + h + ", now", x, h + 1, 3);
            }
            x.go(1);
            dueGap("sun in " + h + ", over", x, NONE, NONE);
        }
        SnowSentries never = Check.told("man west 3 plain 9 9 1 0;");
        dueGap("no sun", never, NONE, NONE);
        never.go(12);
        dueGap("at 12", never, NONE, NONE);
        // HOURS that are over do not matter.
        SnowSentries x = Check.told("man west 3 plain 9 9 2 0;sun 1;");
        x.go(1);
        dueGap("sun is over", x, NONE, NONE);
    }

    /** "the least FURLONG of those that do not (1)". */
    private static void gapTheLeastFurlong() {
        SnowSentries x = Check.told("furlongs 10;sun 1 1 1;man west 0 plain 0 0 3 0;man west 4 plain 0 0 2 0;man west 9 plain 0 0 1 0;man west 8 plain 0 0 2 0;");
        dueGap("the ninth", x, 1, 9);
        x.go(1);
        dueGap("two at once", x, 2, 4);
        x.go(1);
        dueGap("the first", x, 3, 0);
        x.go(1);
        dueGap("nobody counts any more", x, NONE, NONE);
    }

    private static void gapOfNobody() {
        SnowSentries x = Check.told("sun 9;treaty 5 1 1;man west 0 plain 9 9 4 1;man west 1 plain 9 9 9 0;man west 2 plain 9 9 9 1 bare;man east 0 plain 9 9 9 1;");
        dueGap("nobody counts now", x, NONE, NONE);
        check.due("the other side", x.gap(1, 0), 1);
        check.due("the other side", x.gap(1, 1), 0);
    }

    private static void dueWay(String name, SnowSentries x, int i, int much, int... way) {
        for (int k = 0; k < way.length; k++) {
            check.due(name + ", hour " + k, x.lead(i, much, 10 + k), way[k]);
        }
        check.due(name + ", no hour " + way.length, x.lead(i, much, 10 + way.length), BAD);
    }

    /** "LAST, the most (what 0)"; "in each HOUR it stays, or goes to a next FURLONG, then loses HEAT there". */
    private static void leadTheMost() {
        // From 2 on it comes to 0 or 4, where there is none, only behind two HOURS.
        SnowSentries x = Check.told("brazier 2 5 0 11;");
        check.due("it goes at once", x.lead(2, 10, 0), 9);
        check.due("from 1 on", x.lead(1, 10, 0), 10);
        check.due("from 0 on", x.lead(0, 10, 0), 10);
        dueWay("from 2 on", x, 2, 10, 1, 0, 0, 0, 0, 0, 0, 0, 0, 0, 0, 0);
        dueWay("from 3 on", x, 3, 10, 4, 4, 4, 4, 4, 4, 4, 4, 4, 4, 4, 4);
        // By sun it loses as much everywhere, whatever its way.
        SnowSentries y = Check.told("sun 9 9 9 9 9 9 9 9 9 9 9;");
        check.due("99 by 99", y.lead(2, 99, 0), 0);
        SnowSentries z = Check.told("sun 9 9 9 9 9 9 9 9 9 9 8;");
        check.due("99 by 98", z.lead(2, 99, 0), 1);
        check.due("98 by 98", z.lead(2, 98, 0), 0);
        check.due("1 by 98", z.lead(2, 1, 0), 0);
        // From the present HOUR on alone.
        z.go(10);
        check.due("9 by 8", z.lead(2, 9, 0), 1);
        z.go(1);
        check.due("9 by none", z.lead(2, 9, 0), 9);
        // A WAY is by a HEAD alone: who stands there does not matter.
        SnowSentries men = Check.told("sun 4;man west 2 iced 0 0 9 0;snow 2 9;");
        check.due("not by a kind", men.lead(2, 9, 0), 5);
    }

    /** "of several WAYS the first by FURLONGS". */
    private static void leadTheFirstByFurlongs() {
        SnowSentries x = new SnowSentries();
        dueWay("no heat", x, 4, 1, 3, 2, 1, 0, 0, 0, 0, 0, 0, 0, 0, 0);
        dueWay("no heat", x, 0, 99, 0, 0, 0, 0, 0, 0, 0, 0, 0, 0, 0, 0);
        // Both ways are as good: the one that goes down is the first.
        SnowSentries y = Check.told("furlongs 3;brazier 1 4 0 11;");
        dueWay("from the middle", y, 1, 9, 0, 0, 0, 0, 0, 0, 0, 0, 0, 0, 0, 0);
        dueWay("from above", y, 2, 9, 2, 2, 2, 2, 2, 2, 2, 2, 2, 2, 2, 2);
        // Staying is as good as going up, and first.
        SnowSentries z = Check.told("furlongs 3;brazier 0 4 0 5;");
        dueWay("at the edge", z, 1, 9, 1, 1, 1, 1, 1, 1, 0, 0, 0, 0, 0, 0);
        // Going up is the only good one.
        SnowSentries up = Check.told("furlongs 3;brazier 0 9 0 11;");
        dueWay("up", up, 0, 99, 1, 2, 2, 2, 2, 2, 2, 2, 2, 2, 2, 2);
        check.due("up", up.lead(0, 99, 0), 99 - 5 - 11);
    }

    /** "(0 at least)": then all WAYS are as good. */
    private static void leadIfNothingLasts() {
        SnowSentries x = Check.told("sun 9;brazier 0 20 0 11;");
        check.due("9 by 9 and more", x.lead(4, 9, 0), 0);
        dueWay("any way", x, 4, 9, 3, 2, 1, 0, 0, 0, 0, 0, 0, 0, 0, 0);
        check.due("from there on", x.lead(4, 99, 0), 99 - 9 - 12 * 4);
        dueWay("the way by which it lasts", x, 4, 99, 4, 4, 4, 4, 4, 4, 4, 4, 4, 4, 4, 4);
        int least = 9 + 12 * 4;
        check.due("as much as it loses", x.lead(4, least, 0), 0);
        dueWay("as much as it loses", x, 4, least, 3, 2, 1, 0, 0, 0, 0, 0, 0, 0, 0, 0);
        check.due("one more", x.lead(4, least + 1, 0), 1);
        dueWay("one more", x, 4, least + 1, 4, 4, 4, 4, 4, 4, 4, 4, 4, 4, 4, 4);
    }

    /** "BAD: also a k-th HOUR that there is not (10 on at HOUR 12, too); STATE: HOUR 12 (what 0)." */
    private static void leadAnHourThatThereIsNot() {
        SnowSentries x = new SnowSentries();
        for (int now = 0; now <= 12; now++) {
            for (int what = 0; what <= 24; what++) {
                boolean there = what >= 10 && what < 22 - now;
                int due = what == 0 ? now == 12 ? STATE : 7 : there ? Math.max(0, 2 - (what - 9)) : BAD;
                check.due("lead, what " + what + " at " + now, x.lead(2, 7, what), due);
            }
            if (now < 12) {
                x.go(1);
            }
        }
    }

    private static void leadAtTheEnds() {
        SnowSentries one = Check.told("furlongs 1;sun 1 1 1;brazier 0 2 0 0;");
        check.due("one furlong", one.lead(0, 9, 0), 4);
        dueWay("one furlong", one, 0, 9, 0, 0, 0, 0, 0, 0, 0, 0, 0, 0, 0, 0);
        SnowSentries two = Check.told("furlongs 2;brazier 0 9 0 0;brazier 1 9 1 1;");
        check.due("to and fro", two.lead(0, 99, 0), 99 - 5 - 5);
        dueWay("to and fro", two, 0, 99, 1, 0, 0, 0, 0, 0, 0, 0, 0, 0, 0, 0);
        SnowSentries ten = Check.told("furlongs 10;brazier 8 16 0 11;");
        check.due("past the brazier", ten.lead(9, 99, 0), 99 - 16 - 12 - 8 - 4);
        dueWay("past the brazier", ten, 9, 99, 8, 7, 6, 5, 4, 3, 2, 1, 0, 0, 0, 0);
        SnowSentries end = Check.told("furlongs 10;brazier 5 19 0 11;");
        check.due("from 6 to the end", end.lead(6, 99, 0), 99 - 11 - 7 - 10 * 3);
        dueWay("from 6 to the end", end, 6, 99, 7, 8, 9, 9, 9, 9, 9, 9, 9, 9, 9, 9);
        SnowSentries low = Check.told("furlongs 10;brazier 5 20 0 11;brazier 9 20 0 11;");
        check.due("from 1 to 0", low.lead(1, 99, 0), 99);
        dueWay("from 1 to 0", low, 1, 99, 0, 0, 0, 0, 0, 0, 0, 0, 0, 0, 0, 0);
    }

    /** "HEAT (0 to 99) on the next FURLONG: how many are. BAD; FULL: as many as FURLONGS." "Nothing is FELT: how many were." */
    private static void feltAsManyAsFurlongs() {
        for (int furlongs = 1; furlongs <= 10; furlongs++) {
            SnowSentries x = Check.told("furlongs " + furlongs + ";");
            check.due("none yet", x.forget(), 0);
            for (int n = 1; n <= furlongs; n++) {
                check.due("felt " + n, x.felt(n == 1 ? 99 : 0), n);
                check.due("count " + n, x.count(3), n);
            }
            check.due("one too many", x.felt(0), FULL);
            check.due("BAD and FULL", x.felt(100), BAD);
            check.due("forget all", x.forget(), furlongs);
            check.due("forget none", x.forget(), 0);
            check.due("anew", x.felt(1), 1);
        }
    }

    private static SnowSentries feeling(int furlongs, int... heats) {
        SnowSentries x = Check.told("furlongs " + furlongs + ";sun 9;brazier 0 20 0 11;");
        for (int v : heats) {
            x.felt(v);
        }
        return x;
    }

    private static void dueSpy(String name, SnowSentries x, int many, int furlong, int heat) {
        check.due(name + ", how many", x.spy(0), many);
        check.due(name + ", furlong", x.spy(1), furlong);
        check.due(name + ", heat", x.spy(2), heat);
    }

    private static void dueSpies(String name, SnowSentries x, int many, int furlongs, int heats) {
        check.due(name + ", how many pairs", x.spies(0), many);
        check.due(name + ", furlongs", x.spies(1), furlongs);
        check.due(name + ", heats", x.spies(2), heats);
    }

    /** "One BRAZIER (a FURLONG, HEAT 1 to 20), alone, by which it is FELT so": those that there are do not matter. */
    private static void spyAlone() {
        dueSpy("1", feeling(1, 1), 1, 0, 1);
        dueSpy("20", feeling(1, 20), 1, 0, 20);
        dueSpy("21", feeling(1, 21), 0, NONE, NONE);
        dueSpy("99", feeling(1, 99), 0, NONE, NONE);
        dueSpy("0 on the only furlong", feeling(1, 0), 0, NONE, NONE);
        dueSpy("not by the brazier that there is", feeling(2, 20, 16), 1, 0, 20);
        // FELT on fewer than there are: the others do not matter, but a BRAZIER may be there.
        dueSpy("0 on the first of two", feeling(2, 0), 4, 1, 1);
        dueSpy("16 on the first of two", feeling(2, 16), 2, 0, 16);
        dueSpy("17 on the first of two", feeling(2, 17), 1, 0, 17);
        dueSpy("0 everywhere", feeling(3, 0, 0, 0), 0, NONE, NONE);
        dueSpy("the last furlong", feeling(10, 0, 0, 0, 0, 0, 0, 0, 0, 0, 4), 1, 9, 4);
        dueSpy("the last furlong", feeling(10, 0, 0, 0, 0, 0, 0, 0, 0, 1, 5), 1, 9, 5);
        dueSpy("4 less is 0", feeling(2, 4, 0), 1, 0, 4);
        dueSpy("5 less is 1", feeling(2, 5, 0), 0, NONE, NONE);
        dueSpy("5 less is 1", feeling(2, 5, 1), 1, 0, 5);
    }

    /** "the first FURLONG (1), its HEAT (2)". */
    private static void spyTheFirst() {
        dueSpy("8 on the first of five", feeling(5, 8), 4, 0, 8);
        dueSpy("0 on the first of five", feeling(5, 0), 4 + 8 + 12 + 16, 1, 1);
        dueSpy("0, 4", feeling(5, 0, 4), 4, 1, 4);
        dueSpy("0, 0, 4", feeling(5, 0, 0, 4), 3, 2, 4);
    }

    /** "Two BRAZIERS on unlike FURLONGS, alone, likewise". */
    private static void spiesOnUnlikeFurlongs() {
        dueSpies("one furlong", feeling(1, 5), 0, NONE, NONE);
        // Of 2 FURLONGS: a and b less 4, or 0 is 5: b up to 4 with a 5, then 5 and 4, 6 and 3, 7 and 2, 8 and 1.
        dueSpies("5 on the first of two", feeling(2, 5), 8, 1, 108);
        dueSpies("0 on the first of two", feeling(2, 0), 0, NONE, NONE);
        // 20 and 20 on one FURLONG would be FELT as 40: only by two on unlike ones it is 36 at most.
        dueSpies("36 on the first of two", feeling(2, 36), 1, 1, 2020);
        dueSpies("37 on the first of two", feeling(2, 37), 0, NONE, NONE);
        dueSpies("2 on both", feeling(2, 2, 2), 1, 1, 202);
        dueSpies("1 on both", feeling(2, 1, 1), 1, 1, 101);
        dueSpies("36 on both", feeling(2, 36, 36), 1, 1, 2020);
        dueSpies("0 on both", feeling(2, 0, 0), 0, NONE, NONE);
    }

    /** "the first one by FURLONGS, then HEATS (1: 10 times the lesser FURLONG and the other one; 2: 100 times that one's HEAT and the other one's)". */
    private static void spiesTheFirst() {
        dueSpies("the last two", feeling(10, 0, 0, 0, 0, 0, 0, 0, 0, 1, 1), 1, 89, 101);
        dueSpies("the last two", feeling(10, 0, 0, 0, 0, 0, 0, 0, 0, 4, 1), 1, 89, 401);
        dueSpies("the first and the last", feeling(10, 1, 0, 0, 0, 0, 0, 0, 0, 0, 20), 0, NONE, NONE);
        dueSpies("the first and the last", feeling(10, 1, 0, 0, 0, 0, 0, 0, 0, 0, 4), 1, 9, 104);
        dueSpies("the first and the last", feeling(10, 20, 16, 12, 8, 4, 0, 0, 0, 0, 4), 1, 9, 2004);
        // By FURLONGS first: 0 and 1 ahead of 0 and 2, ahead of 1 and 2.
        SnowSentries x = feeling(3, 1);
        check.due("pairs of 1", x.spies(1), 1);
        check.due("heats of 1", x.spies(2), 101);
        SnowSentries y = feeling(3, 0);
        check.due("pairs of 0", y.spies(1), 12);
        check.due("heats of 0", y.spies(2), 101);
        check.due("how many of 0", y.spies(0), 4 * 8);
        SnowSentries z = feeling(3, 0, 2, 1);
        dueSpies("0 2 1", z, 1, 12, 201);
    }

    private static void dueOdds(String name, SnowSentries x, int i, int t, long above, long below) {
        check.due(name + ", above", x.odds(0, i, t, 0), above);
        check.due(name + ", below", x.odds(0, i, t, 1), below);
    }

    /** "or one more by CHANCE of 10 (0 to 10; 3), each HOUR by itself". */
    private static void oddsByChance() {
        long[][] due = {{0, 1}, {1, 10}, {1, 5}, {3, 10}, {2, 5}, {1, 2}, {3, 5}, {7, 10}, {4, 5}, {9, 10}, {1, 1}};
        for (int chance = 0; chance <= 10; chance++) {
            SnowSentries x = Check.told("man west 0 plain 9 9 1 0;");
            x.chance(chance);
            dueOdds("till 0, chance " + chance, x, 0, 0, 0, 1);
            dueOdds("till 1, chance " + chance, x, 0, 1, due[chance][0], due[chance][1]);
            x.go(11);
            dueOdds("the last hour, chance " + chance, x, 0, 12, due[chance][0], due[chance][1]);
            dueOdds("now, chance " + chance, x, 0, 11, 0, 1);
            x.go(1);
            dueOdds("at 12, chance " + chance, x, 0, 12, 0, 1);
        }
        SnowSentries x = Check.told("man west 0 plain 9 9 1 0;man west 1 plain 9 9 12 0;man west 2 plain 9 9 13 0;");
        dueOdds("3 of 10 at first", x, 0, 1, 3, 10);
        // Twelve times no more: 7 of 10 each.
        long none = 13841287201L;
        dueOdds("12 hours", x, 0, 12, 1000000000000L - none, 1000000000000L);
        // Twelve times one more: 3 of 10 each.
        dueOdds("12 of 12", x, 1, 12, 531441L, 1000000000000L);
        dueOdds("13 of 12", x, 2, 12, 0, 1);
        dueOdds("12 of 11", x, 1, 11, 0, 1);
    }

    /** "Fractions are in lowest terms .. (0 is 0 by 1)". */
    private static void oddsInLowestTerms() {
        SnowSentries x = Check.told("man west 0 plain 9 9 1 0;man west 1 plain 9 9 99 0;man west 2 plain 9 9 2 0;");
        x.chance(5);
        for (int t = 0; t <= 12; t++) {
            long below = 1L << t;
            dueOdds("halves till " + t, x, 0, t, below - 1, below);
            dueOdds("never till " + t, x, 1, t, 0, 1);
        }
        x.chance(4);
        dueOdds("16 of 25", x, 0, 2, 16, 25);
        dueOdds("4 of 25", x, 2, 2, 4, 25);
        x.chance(10);
        dueOdds("for sure", x, 0, 12, 1, 1);
        // The largest HEAD, by the largest TREATY.
        SnowSentries y = Check.told("treaty 99 0 0;sun 0 1;man west 0 plain 9 9 99 0;man west 1 plain 9 9 98 0;");
        dueOdds("99 now", y, 0, 0, 0, 1);
        dueOdds("99 till 1", y, 0, 1, 3, 10);
        dueOdds("99 till 2", y, 0, 2, 1, 1);
        dueOdds("98 now", y, 1, 0, 1, 1);
        y.treaty(0, 98);
        dueOdds("99 till 2, treaty 98", y, 0, 2, 51, 100);
    }

    /** "SUN is as told, or one more": 9 and one more is 10; by his KIND. */
    private static void oddsOfOneMore() {
        SnowSentries x = Check.told("sun 9;man west 0 plain 9 9 10 0;man west 1 iced 9 9 5 0;man west 2 shaded 9 9 1 0;man west 3 packed 9 9 3 0;man west 4 child 9 9 11 0;");
        dueOdds("plain", x, 0, 1, 3, 10);
        dueOdds("iced: 4 or 5", x, 1, 1, 3, 10);
        dueOdds("shaded", x, 2, 12, 0, 1);
        dueOdds("packed: 2", x, 3, 1, 0, 1);
        dueOdds("child", x, 4, 1, 0, 1);
        dueOdds("child till 2: one more twice", x, 4, 2, 9, 100);
        SnowSentries y = Check.told("sun 1 1;man west 0 packed 9 9 2 0;man west 1 iced 9 9 2 0;man west 2 shaded 9 9 2 0;brazier 2 1 0 0;");
        // Packed: 1 or 2 in each HOUR.
        dueOdds("packed till 1", y, 0, 1, 3, 10);
        dueOdds("packed till 2", y, 0, 2, 1, 1);
        // Iced: 0 or 1.
        dueOdds("iced till 1", y, 1, 1, 0, 1);
        dueOdds("iced till 2", y, 1, 2, 9, 100);
        dueOdds("shaded by a brazier", y, 2, 12, 0, 1);
        y.treaty(0, 2);
        dueOdds("shaded by a brazier, treaty 2", y, 2, 1, 1, 1);
    }

    private static void oddsOfWhoDoesNotCount() {
        SnowSentries x = Check.told("treaty 5 1 1;man west 0 plain 9 9 4 1;man west 1 plain 9 9 9 0;man west 2 plain 9 9 9 1 bare;man west 3 plain 9 9 5 1;");
        x.chance(0);
        for (int t : new int[] {0, 1, 12}) {
            dueOdds("head", x, 0, t, 1, 1);
            dueOdds("eyes", x, 1, t, 1, 1);
            dueOdds("bare", x, 2, t, 1, 1);
            dueOdds("who does", x, 3, t, 0, 1);
        }
        check.due("nobody", x.odds(0, 4, 1, 0), NONE);
        check.due("nobody", x.odds(0, 4, 1, 1), NONE);
    }

    /** "The least HEAD of a TREATY (1 to 99; all else as it is) by which both SIDES have as many MEN that COUNT (what 0), how many each (1). BAD; NONE: there is none." */
    private static void talksTheLeast() {
        dueTalks("nobody", new SnowSentries(), 1, 0);
        dueTalks("98 alone", Check.told("man west 0 plain 0 0 98 0;"), 99, 0);
        dueTalks("99 alone", Check.told("man west 0 plain 0 0 99 0;"), NONE, NONE);
        dueTalks("1 alone", Check.told("man east 0 plain 0 0 1 0;"), 2, 0);
        dueTalks("0 alone", Check.told("man east 0 plain 0 0 0 0;"), 1, 0);
        dueTalks("one each", Check.told("man east 0 plain 0 0 1 0;man west 4 plain 0 0 99 0;"), 1, 1);
        dueTalks("99 by two", Check.told("man east 0 plain 0 0 99 0;man east 1 plain 0 0 99 0;man west 4 plain 0 0 99 0;"), NONE, NONE);
        dueTalks("98 and 99", Check.told("man east 0 plain 0 0 99 0;man east 1 plain 0 0 98 0;man west 4 plain 0 0 99 0;"), 99, 1);
        // The HEAD of the TREATY that there is does not matter; EYES and uniforms do.
        SnowSentries x = Check.told("treaty 77 2 1;man west 0 plain 0 0 50 2;man west 1 plain 0 0 60 1;man west 2 plain 0 0 60 2 bare;man east 0 plain 0 0 9 3;");
        dueTalks("by eyes and uniforms", x, 1, 1);
        x.treaty(1, 1);
        dueTalks("by uniforms", x, 61, 0);
        check.due("the treaty stays", x.rule(2), 77);
        check.due("by the treaty nobody counts", x.strength(0), 0);
    }

    private static void dueTalks(String name, SnowSentries x, int head, int each) {
        check.due(name + ", head", x.talks(0), head);
        check.due(name + ", each", x.talks(1), each);
    }

    /** "How many MEN of a SIDE COUNT." */
    private static void strengthOfASide() {
        StringBuilder text = new StringBuilder("furlongs 10;");
        for (int i = 0; i < 10; i++) {
            text.append("man west ").append(i).append(" plain 0 0 ").append(i).append(" 0;");
        }
        SnowSentries x = Check.told(text.toString());
        for (int head = 1; head <= 11; head++) {
            x.treaty(0, head);
            check.due("of west by " + head, x.strength(0), Math.max(0, 10 - head));
            check.due("of east by " + head, x.strength(1), 0);
        }
        SnowSentries all = Check.told(text.toString().replaceAll("[0-9] 0;", "9 0;"));
        check.due("all ten", all.strength(0), 10);
    }
}
