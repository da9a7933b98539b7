/** Promises 6 to 25 with section 2: each sentence that names an edge of what there is, of what is changed, of HEAT, of AN HOUR, of LINES, of HOUSES. */
public final class HoursEdgesTest {
    private static final int BAD = SnowSentries.BAD, STATE = SnowSentries.STATE, FULL = SnowSentries.FULL, NONE = SnowSentries.NONE;
    private static final Check check = new Check("HoursEdgesTest");

    public static void main(String[] args) {
        lessFourForEachFurlong();
        eachBrazierThatBurnsThen();
        theMostHeat();
        allThatHeHasAtMost();
        firstFromHead();
        halfDividedDown();
        sunDoesNothingToHim();
        twoInAnHourAtMost();
        aChildWhoseHeadIsGone();
        aChildWithoutAHead();
        whatIsLeftOfHimDoesNotMelt();
        snowThatLiesThere();
        frostAllOfItAtMost();
        snowAbove200();
        eachManByHimself();
        whoCounts();
        onlyIfUniformsMatter();
        theLineNineAtMost();
        theLineByWhoCountsBehindTheHour();
        whoseHouse();
        sunOfAnHour();
        theTreatyByOneNumber();
        aSeventhBrazier();
        thoseBehindItMoveUp();
        snowOnAHead();
        snowToANextFurlong();
        hoursGo();
        allBeginsAnew();
        nothingIsLost();
        atAnHour();
        check.finish();
    }

    /** "its HEAT less 4 for each FURLONG to it (0 at least)". */
    private static void lessFourForEachFurlong() {
        for (int heat = 1; heat <= 20; heat++) {
            for (int at : new int[] {0, 4, 9}) {
                SnowSentries x = Check.told("furlongs 10;brazier " + at + " " + heat + " 0 0;");
                for (int i = 0; i < 10; i++) {
                    int due = Math.max(0, heat - 4 * Math.abs(at - i));
                    check.due("heat " + heat + " at " + at + " on " + i, x.heat(i, 0, false), due);
                }
            }
        }
        SnowSentries x = Check.told("furlongs 10;brazier 0 4 0 0;brazier 5 5 0 0;");
        check.due("4 less 4", x.heat(1, 0, false), 0);
        check.due("5 less 4", x.heat(6, 0, false), 1);
        check.due("5 less 8", x.heat(7, 0, false), 0);
    }

    /** "each BRAZIER that burns then": from an HOUR to another one, both of them too. */
    private static void eachBrazierThatBurnsThen() {
        for (int from = 0; from < 12; from++) {
            for (int to = from; to < 12; to++) {
                SnowSentries x = Check.told("sun 1 1 1 1 1 1 1 1 1 1 1 1;brazier 2 7 " + from + " " + to + ";");
                for (int h = 0; h < 12; h++) {
                    int due = h >= from && h <= to ? 7 : 0;
                    check.due("from " + from + " to " + to + " in " + h, x.heat(2, h, false), due);
                    check.due("with sun in " + h, x.heat(2, h, true), due + 1);
                }
            }
        }
    }

    private static void theMostHeat() {
        SnowSentries x = Check.told("sun 9;snow 0 200;man west 0 plain 99 99 99 0;" + "brazier 0 20 0 0;".repeat(6));
        check.due("six and the sun", x.heat(0, 0, true), 129);
        check.due("six", x.heat(0, 0, false), 120);
        x.go(1);
        check.due("snow", x.furlong(0, 0), 71);
        check.due("belly", x.man(0, 0, 2), 69);
        check.due("water", x.furlong(0, 1), 258);
    }

    /** "loses HEAT (by his KIND; all that he has at most)": a man of nothing is still there. */
    private static void allThatHeHasAtMost() {
        int[][] dues = {{4, 1, 0, 0}, {5, 0, 0, 0}, {6, 0, 0, 0}, {9, 0, 0, 0}};
        for (int[] due : dues) {
            SnowSentries x = Check.told("sun " + due[0] + ";man west 0 plain 2 2 1 3;");
            x.go(1);
            check.due("sun " + due[0] + ", base", x.man(0, 0, 1), due[1]);
            check.due("sun " + due[0] + ", belly", x.man(0, 0, 2), 0);
            check.due("sun " + due[0] + ", head", x.man(0, 0, 3), 0);
            check.due("sun " + due[0] + ", water", x.furlong(0, 1), Math.min(5, due[0]));
            check.due("sun " + due[0] + ", all", x.all(), 5);
            check.due("he is there", x.count(0), 1);
            check.due("his eyes", x.man(0, 0, 4), 3);
        }
        SnowSentries x = Check.told("sun 9;man east 4 plain 0 0 0 0;");
        x.go(12);
        check.due("of nothing", x.man(1, 4, 0), 0);
        check.due("no water", x.furlong(4, 1), 0);
    }

    /** "first from HEAD, then BELLY, then BASE". */
    private static void firstFromHead() {
        int[][] dues = {{2, 3, 3, 1}, {3, 3, 3, 0}, {4, 3, 2, 0}, {5, 3, 1, 0}, {6, 3, 0, 0}, {7, 2, 0, 0}, {8, 1, 0, 0}, {9, 0, 0, 0}};
        for (int[] due : dues) {
            SnowSentries x = Check.told("sun " + due[0] + ";man east 1 plain 3 3 3 0;");
            x.go(1);
            for (int part = 1; part <= 3; part++) {
                check.due("sun " + due[0] + ", part " + part, x.man(1, 1, part), due[part]);
            }
        }
    }

    /** "1 iced: he loses half, divided down". */
    private static void halfDividedDown() {
        for (int sun = 0; sun <= 9; sun++) {
            SnowSentries x = Check.told("sun " + sun + ";brazier 0 1 0 0;man west 0 iced 9 9 50 0;man west 4 iced 9 9 50 0;");
            x.go(1);
            check.due("half of " + sun, x.man(0, 4, 3), 50 - sun / 2);
            check.due("half of " + sun + " and 1", x.man(0, 0, 3), 50 - (sun + 1) / 2);
            check.due("water", x.furlong(4, 1), sun / 2);
        }
    }

    /** "2 shaded: sun does nothing to him"; BRAZIERS do. */
    private static void sunDoesNothingToHim() {
        SnowSentries x = Check.told("sun 9 9;brazier 0 5 1 1;snow 0 20;man west 0 shaded 9 9 9 0;");
        x.go(1);
        check.due("by sun", x.man(0, 0, 3), 9);
        check.due("but the snow", x.furlong(0, 0), 11);
        x.go(1);
        check.due("by a brazier", x.man(0, 0, 3), 4);
        check.due("but the snow", x.furlong(0, 0), 0);
    }

    /** "3 packed: he loses 2 in an HOUR at most". */
    private static void twoInAnHourAtMost() {
        for (int sun = 0; sun <= 9; sun++) {
            SnowSentries x = Check.told("sun " + sun + ";man west 0 packed 9 9 1 0;brazier 4 16 0 0;man east 4 packed 9 9 9 0;");
            x.go(1);
            check.due("of " + sun + ", head", x.man(0, 0, 3), sun == 0 ? 1 : 0);
            check.due("of " + sun + ", belly", x.man(0, 0, 2), sun < 2 ? 9 : 8);
            check.due("of 16 more", x.man(1, 4, 3), 7);
        }
    }

    /** "4 child: if his HEAD is gone behind an HOUR he is gone: all that is left of him lies there." */
    private static void aChildWhoseHeadIsGone() {
        int[][] dues = {{2, 1, 0, 2}, {3, NONE, 10, 3}, {4, NONE, 9, 4}, {8, NONE, 5, 8}, {9, NONE, 4, 9}};
        for (int[] due : dues) {
            SnowSentries x = Check.told("sun " + due[0] + ";man west 3 child 5 5 3 1;");
            x.go(1);
            check.due("sun " + due[0] + ", head", x.man(0, 3, 3), due[1]);
            check.due("sun " + due[0] + ", snow", x.furlong(3, 0), due[2]);
            check.due("sun " + due[0] + ", water", x.furlong(3, 1), due[3]);
            check.due("sun " + due[0] + ", men", x.count(0), due[1] == NONE ? 0 : 1);
            check.due("sun " + due[0] + ", all", x.all(), 13);
        }
        // With nothing left of him he is gone, too.
        SnowSentries x = Check.told("sun 3;man west 3 child 0 0 3 1;");
        x.go(1);
        check.due("of a head alone", x.man(0, 3, 0), NONE);
        check.due("nothing lies there", x.furlong(3, 0), 0);
        // Only a child: all others stay.
        for (String kind : new String[] {"plain", "iced", "packed"}) {
            SnowSentries y = Check.told("sun 9;man west 3 " + kind + " 5 5 1 1;");
            y.go(1);
            check.due(kind + " has no head", y.man(0, 3, 3), 0);
            check.due(kind + " stays", y.count(0), 1);
            check.due("nothing of " + kind + " lies there", y.furlong(3, 0), 0);
        }
        // Both of a FURLONG at once.
        SnowSentries z = Check.told("sun 4;man west 0 child 5 6 2 1;man east 0 child 7 8 4 1;");
        z.go(1);
        check.due("both are gone", z.count(0), 0);
        check.due("what is left of both", z.furlong(0, 0), 5 + 4 + 7 + 8);
        check.due("water of both", z.furlong(0, 1), 8);
    }

    /** "(if he had one as the HOUR began)". */
    private static void aChildWithoutAHead() {
        SnowSentries x = Check.told("sun 1 1 0 1;snow 0 9;man west 0 child 3 4 0 1;");
        x.go(1);
        check.due("he stays", x.man(0, 0, 2), 3);
        x.go(1);
        check.due("he still stays", x.man(0, 0, 2), 2);
        check.due("mended", x.mend(0, 0, 1), 1);
        x.go(1);
        check.due("without heat", x.man(0, 0, 3), 1);
        x.go(1);
        check.due("now he had one", x.man(0, 0, 0), NONE);
        check.due("what is left of him", x.furlong(0, 0), 9 - 2 - 1 - 1 + 5);
        // All of him melts, and yet he stays: he had no HEAD.
        SnowSentries y = Check.told("sun 9;man west 0 child 3 4 0 1;");
        y.go(1);
        check.due("of nothing", y.man(0, 0, 0), 4);
        check.due("is there", y.count(0), 1);
    }

    private static void whatIsLeftOfHimDoesNotMelt() {
        SnowSentries x = Check.told("sun 3 3;frost 1 0;snow 1 2;man east 1 child 9 9 3 1;");
        x.go(1);
        // 2 of SNOW and 3 of his HEAD are WATER, 18 fall, 1 freezes.
        check.due("snow", x.furlong(1, 0), 19);
        check.due("water", x.furlong(1, 1), 4);
        x.go(1);
        check.due("in the next hour it does", x.furlong(1, 0), 16);
    }

    /** "SNOW that lies there loses as much as HEAT, too (all of it at most)". */
    private static void snowThatLiesThere() {
        for (int snow = 3; snow <= 6; snow++) {
            SnowSentries x = Check.told("sun 5;snow 2 " + snow + ";");
            x.go(1);
            check.due("snow of " + snow, x.furlong(2, 0), Math.max(0, snow - 5));
            check.due("water of " + snow, x.furlong(2, 1), Math.min(5, snow));
        }
    }

    /** "WATER becomes SNOW, as much as FROST of the HOUR (all of it at most)". */
    private static void frostAllOfItAtMost() {
        for (int frost = 0; frost <= 9; frost++) {
            SnowSentries x = Check.told("sun 5;frost " + frost + ";snow 2 50;");
            x.go(1);
            check.due("snow by " + frost, x.furlong(2, 0), 45 + Math.min(5, frost));
            check.due("water by " + frost, x.furlong(2, 1), 5 - Math.min(5, frost));
        }
        // FROST of that HOUR, not of another.
        SnowSentries x = Check.told("sun 9;frost 0 0 0 0 0 0 0 0 0 0 0 4;snow 0 50;");
        x.go(11);
        check.due("not yet", x.furlong(0, 1), 9);
        x.go(1);
        check.due("in hour 11", x.furlong(0, 1), 5);
    }

    /** "SNOW may be above 200 so." */
    private static void snowAbove200() {
        SnowSentries x = Check.told("sun 9;frost 9 9 9;snow 0 200;man west 0 plain 50 50 50 0;man east 0 plain 50 50 50 0;");
        x.go(1);
        check.due("200", x.furlong(0, 0), 200);
        x.go(1);
        check.due("209", x.furlong(0, 0), 209);
        x.go(1);
        check.due("218", x.furlong(0, 0), 218);
        check.due("all", x.all(), 500);
        check.due("mended of it", x.mend(0, 0, 58), 99);
        check.due("the rest", x.furlong(0, 0), 160);
    }

    /** "on each FURLONG each MAN (SIDE 0 first)": both lose all of HEAT. */
    private static void eachManByHimself() {
        SnowSentries x = Check.told("furlongs 10;sun 4;man west 0 plain 9 9 9 0;man east 0 plain 9 9 9 0;man west 9 plain 9 9 9 0;man east 9 plain 9 9 9 0;");
        x.go(1);
        for (int i : new int[] {0, 9}) {
            check.due("west on " + i, x.man(0, i, 3), 5);
            check.due("east on " + i, x.man(1, i, 3), 5);
            check.due("water on " + i, x.furlong(i, 1), 8);
        }
        check.due("none between", x.furlong(5, 1), 0);
    }

    /** "A MAN COUNTS, if HEAD and EYES are at least as told by the TREATY". */
    private static void whoCounts() {
        SnowSentries x = Check.told("treaty 10 2 0;man west 0 plain 0 0 9 2;man west 1 plain 0 0 10 2;man west 2 plain 0 0 10 1;man west 3 plain 0 0 11 3;man east 4 plain 99 99 9 3;");
        int[] due = {0, 1, 0, 1, 0};
        for (int i = 0; i < 5; i++) {
            check.due("counts on " + i, x.furlong(i, 3), due[i]);
        }
        check.due("how many", x.strength(0), 2);
        x.treaty(0, 9);
        check.due("head 9", x.furlong(0, 3), 1);
        check.due("east", x.furlong(4, 3), 2);
        x.treaty(1, 1);
        check.due("eyes 1", x.furlong(2, 3), 1);
        x.treaty(0, 99);
        check.due("none of 99", x.strength(0), 0);
        SnowSentries y = Check.told("treaty 99 3 0;man east 4 plain 0 0 99 3;man west 4 plain 0 0 98 3;");
        check.due("the most", y.furlong(4, 3), 2);
        // With a TREATY of 1 and 0 a HEAD of 1 is enough, one of 0 is not.
        SnowSentries z = Check.told("man west 0 plain 9 9 0 3;man west 1 plain 0 0 1 0;");
        check.due("no head", z.furlong(0, 3), 0);
        check.due("a head of 1", z.furlong(1, 3), 1);
    }

    /** "and he wears his uniform, if that matters". */
    private static void onlyIfUniformsMatter() {
        SnowSentries x = Check.told("man west 0 plain 0 0 9 0;man east 0 plain 0 0 9 0 bare;");
        check.due("both", x.furlong(0, 3), 3);
        x.treaty(2, 1);
        check.due("one", x.furlong(0, 3), 1);
        check.due("west", x.strength(0), 1);
        check.due("east", x.strength(1), 0);
        x.treaty(2, 0);
        check.due("both again", x.furlong(0, 3), 3);
    }

    /** "its LINE becomes one more (9 at most); if SIDE 1 alone, one less (-9 at least)". */
    private static void theLineNineAtMost() {
        SnowSentries x = Check.told("man west 0 plain 0 0 9 0;man east 1 plain 0 0 9 0;house 0 9 east;house 1 9 west;");
        for (int h = 1; h <= 12; h++) {
            x.go(1);
            check.due("west at " + h, x.furlong(0, 2), 100 + Math.min(9, h));
            check.due("east at " + h, x.furlong(1, 2), 100 - Math.min(9, h));
            check.due("house at 9, hour " + h, x.house(0, 2), h < 9 ? 1 : NONE);
            check.due("house at -9, hour " + h, x.house(1, 2), h < 9 ? 0 : NONE);
        }
        x.dawn();
        check.due("line at 12 of a second day", x.line(0, 12), 109);
        check.due("line at 12 of a second day", x.line(1, 12), 91);
        x.go(12);
        check.due("west", x.furlong(0, 2), 109);
        check.due("east", x.furlong(1, 2), 91);
        // From 9 back, one by one; where both COUNT it stays.
        SnowSentries y = Check.told("treaty 9 0 0;man west 0 plain 0 0 9 1;man east 0 plain 0 0 5 3;");
        y.go(9);
        check.due("as far as it goes", y.furlong(0, 2), 109);
        y.treaty(0, 5);
        y.go(1);
        check.due("both count", y.furlong(0, 2), 109);
        y.treaty(1, 2);
        y.go(1);
        check.due("east alone", y.furlong(0, 2), 108);
        y.treaty(1, 0);
        y.treaty(0, 9);
        y.go(1);
        check.due("west alone", y.furlong(0, 2), 109);
    }

    /** "Behind each HOUR": he who does not COUNT any more behind it moves nothing. */
    private static void theLineByWhoCountsBehindTheHour() {
        SnowSentries x = Check.told("treaty 5 0 0;sun 1 1 1;man west 0 plain 0 0 6 0;man east 1 plain 0 0 5 0;man west 2 plain 0 0 9 0;man east 2 plain 0 0 6 0;");
        x.go(1);
        check.due("5 behind it", x.furlong(0, 2), 101);
        check.due("4 behind it", x.furlong(1, 2), 100);
        check.due("both", x.furlong(2, 2), 100);
        x.go(1);
        check.due("4 behind it", x.furlong(0, 2), 101);
        check.due("now alone", x.furlong(2, 2), 101);
        // FURLONGS without anybody, and with those who do not COUNT, stay.
        check.due("nobody", x.furlong(4, 2), 100);
        // A child that is gone does not COUNT: the other one is alone.
        SnowSentries y = Check.told("sun 3;man west 0 child 9 9 3 0;man east 0 shaded 0 0 1 0;");
        y.go(1);
        check.due("the child is gone", y.furlong(0, 2), 99);
    }

    /** "A HOUSE is SIDE 0's, if its place is below LINE; SIDE 1's, if above; nobody's on it." */
    private static void whoseHouse() {
        SnowSentries x = Check.told("man west 0 plain 0 0 9 0;house 0 0 west;house 0 1 east;house 0 2 east;house 1 0 east;house 1 1 west;house 1 1 east;house 0 9 west;house 0 9 east;");
        int[][] due = {{NONE, 0, 0}, {1, NONE, 0}, {1, 1, NONE}, {NONE, NONE, NONE}, {0, 0, 0}, {1, 1, 1}, {0, 0, 0}, {1, 1, 1}};
        int[] west = new int[3];
        int[] east = new int[3];
        for (int h = 0; h < 8; h++) {
            for (int at = 0; at < 3; at++) {
                west[at] |= due[h][at] == 0 ? 1 << h : 0;
                east[at] |= due[h][at] == 1 ? 1 << h : 0;
            }
        }
        for (int now = 0; now < 3; now++) {
            for (int h = 0; h < 8; h++) {
                check.due("house " + h + " at " + now, x.house(h, 2), due[h][now]);
            }
            for (int at = now; at < 3; at++) {
                check.due("of west at " + at, x.houses(0, at), west[at]);
                check.due("of east at " + at, x.houses(1, at), east[at]);
            }
            x.go(1);
        }
        SnowSentries none = Check.told("man west 0 plain 0 0 9 0;");
        check.due("no house, west", none.houses(0, 12), 0);
        check.due("no house, east", none.houses(1, 12), 0);
    }

    /** "SUN of an HOUR becomes v (0 to 9): what it was." */
    private static void sunOfAnHour() {
        SnowSentries x = Check.told("sun 1 2 3 4 5 6 7 8 9 0 1 2;frost 3;");
        for (int h = 0; h < 12; h++) {
            int was = x.hour(h, 0);
            check.due("shine 9 in " + h, x.shine(h, 9), was);
            check.due("shine 0 in " + h, x.shine(h, 0), 9);
            check.due("shone in " + h, x.hour(h, 0), 0);
            check.due("shine 10 in " + h, x.shine(h, 10), BAD);
            check.due("not in " + h, x.hour(h, 0), 0);
        }
        check.due("frost stays", x.hour(0, 1), 3);
        // An HOUR that is over may be changed, too: it comes again with dawn.
        x.go(12);
        check.due("at 12", x.shine(0, 4), 0);
    }

    /** "The TREATY: what (0 to 2) becomes v: what it was." */
    private static void theTreatyByOneNumber() {
        SnowSentries x = Check.told("treaty 50 2 1;");
        check.due("head", x.treaty(0, 99), 50);
        check.due("eyes", x.treaty(1, 3), 2);
        check.due("uniforms", x.treaty(2, 0), 1);
        int[] due = {99, 3, 0};
        for (int what = 0; what < 3; what++) {
            check.due("rule " + what, x.rule(2 + what), due[what]);
        }
        check.due("head 1", x.treaty(0, 1), 99);
        check.due("head 0", x.treaty(0, 0), BAD);
        check.due("eyes 0", x.treaty(1, 0), 3);
        check.due("uniforms 1", x.treaty(2, 1), 0);
        check.due("uniforms 2", x.treaty(2, 2), BAD);
        int[] then = {1, 0, 1};
        for (int what = 0; what < 3; what++) {
            check.due("rule " + what, x.rule(2 + what), then[what]);
        }
    }

    /** "A BRAZIER more: how many there are. BAD; FULL." */
    private static void aSeventhBrazier() {
        SnowSentries x = new SnowSentries();
        for (int n = 1; n <= 6; n++) {
            check.due("light " + n, x.light(n % 5, n, n, n + 5), n);
        }
        check.due("light 7", x.light(0, 1, 0, 0), FULL);
        check.due("six", x.count(1), 6);
        check.due("quench one", x.quench(5), 5);
        check.due("light a sixth", x.light(4, 20, 11, 11), 6);
        int[] last = {4, 20, 11, 11};
        for (int what = 0; what < 4; what++) {
            check.due("the sixth, " + what, x.brazier(5, what), last[what]);
            check.due("a seventh, " + what, x.brazier(6, what), BAD);
        }
        // Six of a text are full, too.
        SnowSentries y = Check.told("brazier 0 1 0 0;".repeat(6));
        check.due("light 7", y.light(0, 1, 0, 0), FULL);
        SnowSentries z = Check.told("brazier 0 1 0 0;".repeat(5));
        check.due("light 6", z.light(0, 1, 0, 0), 6);
    }

    /** "A BRAZIER is taken away (those behind it move up): how many there are then." */
    private static void thoseBehindItMoveUp() {
        for (int gone = 0; gone < 6; gone++) {
            SnowSentries x = new SnowSentries();
            for (int b = 0; b < 6; b++) {
                x.light(b % 5, b + 1, b, b + 6);
            }
            check.due("quench " + gone, x.quench(gone), 5);
            for (int b = 0; b < 5; b++) {
                int was = b < gone ? b : b + 1;
                check.due("quenched " + gone + ", place of " + b, x.brazier(b, 0), was % 5);
                check.due("quenched " + gone + ", heat of " + b, x.brazier(b, 1), was + 1);
                check.due("quenched " + gone + ", from of " + b, x.brazier(b, 2), was);
                check.due("quenched " + gone + ", to of " + b, x.brazier(b, 3), was + 6);
            }
            check.due("quenched " + gone + ", no sixth", x.brazier(5, 0), BAD);
        }
        SnowSentries one = Check.told("brazier 0 9 0 11;");
        check.due("the only one", one.quench(0), 0);
        check.due("no heat any more", one.heat(0, 0, false), 0);
        check.due("none is left", one.quench(0), BAD);
    }

    /** "So much SNOW (0 to 99) of a FURLONG comes on the HEAD of a MAN there: his HEAD then." */
    private static void snowOnAHead() {
        SnowSentries x = Check.told("snow 0 99;man west 0 plain 1 1 0 0;man east 0 plain 1 1 98 0;");
        check.due("all of 99 on 0", x.mend(0, 0, 99), 99);
        check.due("none is left", x.furlong(0, 0), 0);
        check.due("none of none", x.mend(1, 0, 0), 98);
        check.due("one of none", x.mend(1, 0, 1), STATE);
        check.due("none on 99", x.mend(0, 0, 0), 99);
        check.due("one of none on 99", x.mend(0, 0, 1), STATE);
        SnowSentries y = Check.told("snow 0 2;man east 0 plain 1 1 98 0;");
        check.due("two on 98", y.mend(1, 0, 2), FULL);
        check.due("three of two on 98", y.mend(1, 0, 3), STATE);
        check.due("one on 98", y.mend(1, 0, 1), 99);
        check.due("one on 99", y.mend(1, 0, 1), FULL);
        check.due("one is left", y.furlong(0, 0), 1);
        // SNOW of that FURLONG alone.
        SnowSentries z = Check.told("snow 0 9;snow 2 9;man west 1 plain 1 1 1 1;");
        check.due("none lies there", z.mend(0, 1, 1), STATE);
    }

    /** "So much SNOW (0 on) of a FURLONG is brought to a next one: what lies there then." */
    private static void snowToANextFurlong() {
        SnowSentries x = Check.told("snow 0 200;snow 1 200;snow 2 3;");
        check.due("all of it, above 200", x.carry(0, 1, 200), 400);
        check.due("none is left", x.furlong(0, 0), 0);
        check.due("one of none", x.carry(0, 1, 1), STATE);
        check.due("none of none", x.carry(0, 1, 0), 400);
        check.due("more than 99 at once", x.carry(1, 2, 400), 403);
        check.due("one too many", x.carry(2, 3, 404), STATE);
        check.due("back", x.carry(2, 1, 403), 403);
        check.due("all", x.all(), 403);
        SnowSentries one = Check.told("furlongs 1;snow 0 9;");
        check.due("one furlong, up", one.carry(0, 1, 1), BAD);
        check.due("one furlong, down", one.carry(0, -1, 1), BAD);
    }

    /** "n HOURS (1 to 12) go: the HOUR then. BAD; STATE: it would be above 12." */
    private static void hoursGo() {
        String text = "sun 1 2 3 4 5 6 7 8 9 0 1 2;frost 1 0 2 0 3 0 4 0 5 0 6 0;snow 0 99;man west 0 plain 9 9 90 0;man east 1 child 9 9 20 0;";
        for (int n = 1; n <= 12; n++) {
            SnowSentries once = Check.told(text);
            SnowSentries byOne = Check.told(text);
            check.due("go " + n, once.go(n), n);
            for (int k = 1; k <= n; k++) {
                check.due("one more", byOne.go(1), k);
            }
            check.dueText("all behind " + n + " hours", Whole.of(once, 60), Whole.of(byOne, 60));
        }
    }

    /** "All of HOURS begins anew: the HOUR it was (0 then; all else stays)." */
    private static void allBeginsAnew() {
        String text = "sun 3 1;frost 1;snow 0 50;man west 0 plain 9 9 40 0;brazier 1 9 0 0;house 0 0 west;treaty 2 0 0;";
        for (int n : new int[] {1, 11, 12}) {
            SnowSentries x = Check.told(text);
            SnowSentries y = Check.told(text);
            x.go(n);
            y.go(n);
            check.due("dawn at " + n, x.dawn(), n);
            check.due("dawn at once again", x.dawn(), 0);
            String due = Whole.of(y, 60).replaceFirst("(\\| now: \\S+ \\S+ \\S+ \\S+) " + n + " ", "$1 0 ");
            check.dueText("all else stays", Whole.of(x, 60), due);
        }
        SnowSentries x = Check.told(text);
        x.go(12);
        check.due("go at 12", x.go(1), STATE);
        x.dawn();
        check.due("go 12 anew", x.go(12), 12);
    }

    /** "SNOW, WATER, and all MEN together": as much behind all that melts, falls, freezes, is mended, is carried. */
    private static void nothingIsLost() {
        SnowSentries x = Check.told("furlongs 3;sun 9 9 9 9;frost 1 2 3;snow 0 200;snow 2 1;man west 0 child 9 9 5 0;man east 2 iced 99 99 99 0;man west 2 packed 1 1 1 1;brazier 2 20 0 11;");
        int all = 200 + 1 + 23 + 297 + 3;
        check.due("at first", x.all(), all);
        for (int h = 1; h <= 12; h++) {
            x.go(1);
            check.due("at " + h, x.all(), all);
        }
        x.carry(0, 1, 10);
        x.mend(1, 2, 1);
        check.due("carried, mended", x.all(), all);
        check.due("of nothing", new SnowSentries().all(), 0);
    }

    /** "at HOUR h (no less than the present one, 12 at most)"; "NONE: nobody is there then." */
    private static void atAnHour() {
        SnowSentries x = Check.told("sun 2 2 2;man west 0 child 5 5 4 0;man east 0 plain 5 5 9 0;house 0 0 west;");
        int[] child = {4, 2, NONE, NONE};
        int[] plain = {9, 7, 5, 3};
        int[] line = {100, 100, 99, 98};
        int[] houses = {0, 0, 2, 2};
        for (int now = 0; now < 4; now++) {
            for (int h = 0; h < 4; h++) {
                check.due("child at " + h + ", now " + now, x.later(0, 0, h), h < now ? BAD : child[h]);
                check.due("plain at " + h + ", now " + now, x.later(1, 0, h), h < now ? BAD : plain[h]);
                check.due("line at " + h + ", now " + now, x.line(0, h), h < now ? BAD : line[h]);
                check.due("east's at " + h + ", now " + now, x.houses(1, h), h < now ? BAD : houses[h] / 2);
            }
            x.go(1);
        }
        x.go(8);
        check.due("at 12", x.later(1, 0, 12), 3);
        check.due("at 12, gone", x.later(0, 0, 12), NONE);
        check.due("at 12, line", x.line(0, 12), 91);
        check.due("at 12, houses", x.houses(1, 12), 1);
        check.due("at 13", x.later(1, 0, 13), BAD);
        check.due("at 13, line", x.line(0, 13), BAD);
        check.due("at 13, houses", x.houses(1, 13), BAD);
        check.due("at 11", x.later(1, 0, 11), BAD);
        // Who COUNTS then: by HEAD, EYES and uniforms.
        SnowSentries y = Check.told("sun 1 1;treaty 3 2 1;man west 0 plain 0 0 4 2;man west 1 plain 0 0 9 1;man west 2 plain 0 0 9 3 bare;man east 3 iced 0 0 3 3;house 0 0 west;house 3 0 west;");
        int[] lines = {101, 100, 100, 91};
        for (int i = 0; i < 4; i++) {
            check.due("line of " + i + " at 12", y.line(i, 12), lines[i]);
        }
        check.due("houses at 12", y.houses(0, 12), 1);
        check.due("houses at 12", y.houses(1, 12), 2);
        y.treaty(1, 1);
        check.due("by fewer eyes", y.line(1, 12), 109);
        y.treaty(2, 0);
        check.due("without uniforms", y.line(2, 12), 109);
    }
}
