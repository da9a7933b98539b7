/** Promises 19 to 25: HEAT, HOURS that go, and what would be. */
public final class HoursTest {
    private static final int BAD = SnowSentries.BAD, STATE = SnowSentries.STATE, NONE = SnowSentries.NONE;
    private static final Check check = new Check("HoursTest");

    public static void main(String[] args) {
        heats();
        going();
        dawning();
        kinds();
        fromTheTop();
        children();
        frost();
        lines();
        ahead();
        check.finish();
    }

    private static void heats() {
        SnowSentries x = Check.told("furlongs 10;sun 0 0 3 9;brazier 4 20 2 4;brazier 6 5 3 3;");
        int[] alone = {4, 8, 12, 16, 20, 16, 12, 8, 4, 0};
        int[] both = {4, 8, 12, 16, 20, 17, 17, 9, 4, 0};
        for (int i = 0; i < 10; i++) {
            check.due("ahead " + i, x.heat(i, 1, true), 0);
            check.due("first " + i, x.heat(i, 2, false), alone[i]);
            check.due("first, sun " + i, x.heat(i, 2, true), alone[i] + 3);
            check.due("both " + i, x.heat(i, 3, false), both[i]);
            check.due("both, sun " + i, x.heat(i, 3, true), both[i] + 9);
            check.due("last " + i, x.heat(i, 4, true), alone[i]);
            check.due("behind " + i, x.heat(i, 5, false), 0);
        }
        check.due("furlong 10", x.heat(10, 0, true), BAD);
        check.due("furlong -1", x.heat(-1, 0, true), BAD);
        check.due("hour 12", x.heat(0, 12, false), BAD);
        check.due("hour -1", x.heat(0, -1, false), BAD);
    }

    private static void going() {
        SnowSentries x = new SnowSentries();
        check.due("go 0", x.go(0), BAD);
        check.due("go -1", x.go(-1), BAD);
        check.due("go 13", x.go(13), BAD);
        check.due("go 12", x.go(12), 12);
        check.due("go 1 more", x.go(1), STATE);
        check.due("go 13 more", x.go(13), BAD);
        check.due("dawn", x.dawn(), 12);
        check.due("go 5", x.go(5), 5);
        check.due("go 8", x.go(8), STATE);
        check.due("still 5", x.rule(1), 5);
        check.due("go 7", x.go(7), 12);
    }

    private static void dawning() {
        SnowSentries x = Check.told("sun 3 1;snow 0 20;man west 0 plain 1 1 9 0;");
        check.due("dawn at 0", x.dawn(), 0);
        x.go(2);
        check.due("dawn at 2", x.dawn(), 2);
        check.due("hour 0", x.rule(1), 0);
        check.due("snow stays", x.furlong(0, 0), 16);
        check.due("water stays", x.furlong(0, 1), 8);
        check.due("line stays", x.furlong(0, 2), 102);
        check.due("head stays", x.man(0, 0, 3), 5);
        x.go(1);
        check.due("sun of hour 0 again", x.furlong(0, 0), 13);
        check.due("all", x.all(), 31);
    }

    private static void kinds() {
        // HEAT is 7 by sun and 9, 5, 1, 0, 0 by the BRAZIER: nothing else is unlike but the KINDS.
        String[] kinds = {"plain", "iced", "shaded", "packed", "child"};
        int[][] heads = {{34, 38, 42, 43, 43}, {42, 44, 46, 47, 47}, {41, 45, 49, 50, 50}, {48, 48, 48, 48, 48}, {34, 38, 42, 43, 43}};
        for (int kind = 0; kind < 5; kind++) {
            StringBuilder text = new StringBuilder("furlongs 5;sun 7;brazier 0 9 0 0;");
            for (int i = 0; i < 5; i++) {
                text.append("man east ").append(i).append(' ').append(kinds[kind]).append(" 1 1 50 0;");
            }
            SnowSentries x = Check.told(text.toString());
            x.go(1);
            for (int i = 0; i < 5; i++) {
                int heat = x.heat(i, 0, true);
                int fire = x.heat(i, 0, false);
                int[] loss = {heat, heat / 2, fire, Math.min(2, heat), heat};
                check.due(kinds[kind] + " head " + i, x.man(1, i, 3), 50 - loss[kind]);
                check.due(kinds[kind] + " head as told " + i, x.man(1, i, 3), heads[kind][i]);
                check.due(kinds[kind] + " water " + i, x.furlong(i, 1), loss[kind]);
            }
        }
    }

    private static void fromTheTop() {
        SnowSentries x = Check.told("sun 9 9 9;man west 0 plain 8 6 5 0;");
        x.go(1);
        check.due("head", x.man(0, 0, 3), 0);
        check.due("belly", x.man(0, 0, 2), 2);
        check.due("base", x.man(0, 0, 1), 8);
        x.go(1);
        check.due("belly is gone", x.man(0, 0, 2), 0);
        check.due("base", x.man(0, 0, 1), 1);
        x.go(1);
        check.due("base is gone", x.man(0, 0, 1), 0);
        check.due("all that he had", x.furlong(0, 1), 19);
        check.due("he is still there", x.man(0, 0, 0), 0);
        check.due("a man of nothing", x.count(0), 1);
    }

    private static void children() {
        // His rest falls as SNOW, which does not melt in this HOUR; who had no HEAD stays.
        SnowSentries x = Check.told("sun 5 5;snow 0 3;man west 0 child 4 9 3 0;man east 0 child 7 1 0 0;man west 1 child 1 1 0 0;");
        x.go(1);
        check.due("he is gone", x.man(0, 0, 0), NONE);
        check.due("who had no head", x.man(1, 0, 1), 3);
        check.due("his belly", x.man(1, 0, 2), 0);
        check.due("who had none at all", x.man(0, 1, 0), 4);
        check.due("snow", x.furlong(0, 0), 11);
        check.due("water", x.furlong(0, 1), 3 + 5 + 5);
        check.due("men", x.count(0), 2);
        x.go(1);
        check.due("now it melts", x.furlong(0, 0), 6);
        check.due("all", x.all(), 3 + 16 + 8 + 2);
        // A HEAD that is gone exactly.
        SnowSentries y = Check.told("sun 3;man east 2 child 4 4 3 0;");
        y.go(1);
        check.due("gone exactly", y.man(1, 2, 0), NONE);
        check.due("fallen", y.furlong(2, 0), 8);
    }

    private static void frost() {
        SnowSentries x = Check.told("sun 9 0 0;frost 4 4 9;snow 0 200;man west 0 plain 0 0 9 0;");
        x.go(1);
        check.due("snow", x.furlong(0, 0), 195);
        check.due("water", x.furlong(0, 1), 14);
        x.go(1);
        check.due("snow", x.furlong(0, 0), 199);
        x.go(1);
        check.due("above 200", x.furlong(0, 0), 208);
        check.due("water", x.furlong(0, 1), 1);
        SnowSentries y = Check.told("sun 2;frost 9;snow 1 50;");
        y.go(1);
        check.due("all water at most", y.furlong(1, 0), 50);
        check.due("no water", y.furlong(1, 1), 0);
    }

    private static void lines() {
        SnowSentries x = Check.told("man west 0 plain 0 0 9 0;man east 1 plain 0 0 9 0;"
            + "man west 2 plain 0 0 9 0;man east 2 plain 0 0 9 0;man west 3 plain 0 0 0 0;");
        int[] one = {101, 99, 100, 100, 100};
        int[] twelve = {109, 91, 100, 100, 100};
        x.go(1);
        for (int i = 0; i < 5; i++) {
            check.due("line " + i, x.furlong(i, 2), one[i]);
        }
        x.go(11);
        for (int i = 0; i < 5; i++) {
            check.due("line at 12 " + i, x.furlong(i, 2), twelve[i]);
        }
        // Who counts behind the HOUR moves the LINE.
        SnowSentries y = Check.told("sun 5;man west 0 plain 0 0 5 0;man east 0 shaded 0 0 5 0;");
        y.go(1);
        check.due("he melted", y.furlong(0, 2), 99);
    }

    private static void ahead() {
        SnowSentries x = Check.told("furlongs 3;sun 2 2 2;man west 0 plain 1 1 5 0;man east 0 child 1 1 3 0;"
            + "man east 2 shaded 0 0 1 0;house 0 0 east;house 2 1 west;house 2 3 east;");
        int[] west = {5, 3, 1, 0, 0};
        int[] line = {100, 100, 101, 101, 101};
        int[] other = {100, 99, 98, 97, 96};
        int[] first = {2, 0, 1, 1, 1};
        int[] second = {4, 4, 6, 6, 6};
        for (int h = 0; h < 5; h++) {
            check.due("later " + h, x.later(0, 0, h), west[h]);
            check.due("child later " + h, x.later(1, 0, h), h < 2 ? 3 - 2 * h : NONE);
            check.due("line " + h, x.line(0, h), line[h]);
            check.due("other line " + h, x.line(2, h), other[h]);
            check.due("houses 0 " + h, x.houses(0, h), first[h]);
            check.due("houses 1 " + h, x.houses(1, h), second[h]);
        }
        check.due("nobody", x.later(0, 1, 12), NONE);
        check.due("nothing is changed", x.rule(1), 0);
        check.due("he stays", x.man(1, 0, 3), 3);
        check.due("no water", x.furlong(0, 1), 0);
        x.go(2);
        check.due("later, behind", x.later(0, 0, 1), BAD);
        check.due("later, now", x.later(0, 0, 2), 1);
        check.due("later 13", x.later(0, 0, 13), BAD);
        check.due("later side", x.later(2, 0, 5), BAD);
        check.due("later furlong", x.later(0, 3, 5), BAD);
        check.due("line, behind", x.line(0, 1), BAD);
        check.due("line 13", x.line(0, 13), BAD);
        check.due("line furlong", x.line(3, 5), BAD);
        check.due("line -1", x.line(-1, 5), BAD);
        check.due("houses, behind", x.houses(0, 1), BAD);
        check.due("houses 13", x.houses(0, 13), BAD);
        check.due("houses side", x.houses(2, 5), BAD);
        check.due("houses side -1", x.houses(-1, 5), BAD);
        x.go(10);
        check.due("later at 12", x.later(0, 0, 12), 0);
        check.due("line at 12", x.line(2, 12), 91);
    }
}
