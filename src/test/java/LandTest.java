/** Promises 6 to 18: what there is, what is changed. */
public final class LandTest {
    private static final int BAD = SnowSentries.BAD, STATE = SnowSentries.STATE, FULL = SnowSentries.FULL, NONE = SnowSentries.NONE;
    private static final Check check = new Check("LandTest");
    private static final String TEXT = "furlongs 4;sun 1 2 3;frost 0 4;treaty 6 1 1;snow 0 50;snow 3 200;"
        + "man west 0 iced 1 2 30 1;man west 1 shaded 3 4 6 1 bare;man east 0 packed 5 6 7 0;man east 3 child 8 9 10 3;"
        + "brazier 1 9 2 4;brazier 3 20 0 11;house 0 1 west;house 1 2 east;house 2 0 west;";

    public static void main(String[] args) {
        rules();
        hours();
        furlongs();
        men();
        braziers();
        housesThere();
        shining();
        treaties();
        chances();
        lighting();
        mending();
        carrying();
        check.finish();
    }

    private static void rules() {
        SnowSentries x = Check.told(TEXT);
        int[] due = {4, 0, 6, 1, 1, 3};
        for (int what = 0; what < due.length; what++) {
            check.due("rule " + what, x.rule(what), due[what]);
        }
        check.due("rule -1", x.rule(-1), BAD);
        check.due("rule 6", x.rule(6), BAD);
        x.go(5);
        check.due("the hour", x.rule(1), 5);
    }

    private static void hours() {
        SnowSentries x = Check.told(TEXT);
        int[] sun = {1, 2, 3, 0, 0, 0, 0, 0, 0, 0, 0, 0};
        int[] frost = {0, 4, 0, 0, 0, 0, 0, 0, 0, 0, 0, 0};
        for (int h = 0; h < 12; h++) {
            check.due("sun " + h, x.hour(h, 0), sun[h]);
            check.due("frost " + h, x.hour(h, 1), frost[h]);
        }
        check.due("hour -1", x.hour(-1, 0), BAD);
        check.due("hour 12", x.hour(12, 1), BAD);
        check.due("hour what -1", x.hour(0, -1), BAD);
        check.due("hour what 2", x.hour(0, 2), BAD);
        check.due("hour least", x.hour(Integer.MIN_VALUE, 0), BAD);
    }

    private static void furlongs() {
        SnowSentries x = Check.told(TEXT);
        int[][] due = {{50, 0, 100, 1}, {0, 0, 100, 0}, {0, 0, 100, 0}, {200, 0, 100, 2}};
        for (int i = 0; i < 4; i++) {
            for (int what = 0; what < 4; what++) {
                check.due("furlong " + i + " " + what, x.furlong(i, what), due[i][what]);
            }
        }
        check.due("furlong -1", x.furlong(-1, 0), BAD);
        check.due("furlong 4", x.furlong(4, 0), BAD);
        check.due("furlong what 4", x.furlong(0, 4), BAD);
        check.due("furlong what -1", x.furlong(0, -1), BAD);
        // Each demand of the TREATY by itself.
        x.treaty(2, 0);
        check.due("bare counts", x.furlong(1, 3), 1);
        check.due("no eyes", x.furlong(0, 3), 1);
        x.treaty(1, 0);
        check.due("eyes do not matter", x.furlong(0, 3), 3);
        x.treaty(0, 7);
        check.due("head as told", x.furlong(0, 3), 3);
        x.treaty(0, 8);
        check.due("head below", x.furlong(0, 3), 1);
    }

    private static void men() {
        SnowSentries x = Check.told(TEXT);
        int[][] due = {{0, 0, 1, 1, 2, 30, 1, 1}, {0, 1, 2, 3, 4, 6, 1, 0}, {1, 0, 3, 5, 6, 7, 0, 1}, {1, 3, 4, 8, 9, 10, 3, 1}};
        for (int[] man : due) {
            for (int what = 0; what < 6; what++) {
                check.due("man " + man[0] + " " + man[1] + " " + what, x.man(man[0], man[1], what), man[2 + what]);
            }
            check.due("man what 6", x.man(man[0], man[1], 6), BAD);
            check.due("man what -1", x.man(man[0], man[1], -1), BAD);
        }
        check.due("nobody", x.man(0, 2, 0), NONE);
        check.due("nobody, what 6", x.man(0, 2, 6), BAD);
        check.due("side 2", x.man(2, 0, 0), BAD);
        check.due("side -1", x.man(-1, 0, 0), BAD);
        check.due("man on 4", x.man(0, 4, 0), BAD);
        check.due("man on -1", x.man(0, -1, 0), BAD);
    }

    private static void braziers() {
        SnowSentries x = Check.told(TEXT);
        int[][] due = {{1, 9, 2, 4}, {3, 20, 0, 11}};
        for (int b = 0; b < 2; b++) {
            for (int what = 0; what < 4; what++) {
                check.due("brazier " + b + " " + what, x.brazier(b, what), due[b][what]);
            }
        }
        check.due("brazier 2", x.brazier(2, 0), BAD);
        check.due("brazier -1", x.brazier(-1, 0), BAD);
        check.due("brazier what 4", x.brazier(0, 4), BAD);
        check.due("brazier what -1", x.brazier(0, -1), BAD);
    }

    private static void housesThere() {
        SnowSentries x = Check.told(TEXT);
        int[][] due = {{0, 99, 0}, {1, 102, 1}, {2, 100, NONE}};
        for (int h = 0; h < 3; h++) {
            for (int what = 0; what < 3; what++) {
                check.due("house " + h + " " + what, x.house(h, what), due[h][what]);
            }
        }
        check.due("house 3", x.house(3, 0), BAD);
        check.due("house -1", x.house(-1, 0), BAD);
        check.due("house what 3", x.house(0, 3), BAD);
        check.due("house what -1", x.house(0, -1), BAD);
        SnowSentries y = Check.told("man west 0 shaded 0 0 9 0;house 0 2 east;");
        y.go(1);
        check.due("line 1, place 2", y.house(0, 2), 1);
        y.go(1);
        check.due("line 2, place 2", y.house(0, 2), NONE);
        y.go(1);
        check.due("line 3, place 2", y.house(0, 2), 0);
    }

    private static void shining() {
        SnowSentries x = Check.told(TEXT);
        check.due("shine", x.shine(1, 9), 2);
        check.due("shone", x.hour(1, 0), 9);
        check.due("shine 0", x.shine(1, 0), 9);
        check.due("shine above", x.shine(1, 10), BAD);
        check.due("shine below", x.shine(1, -1), BAD);
        check.due("shine hour 12", x.shine(12, 1), BAD);
        check.due("shine hour -1", x.shine(-1, 1), BAD);
        check.due("not shone", x.hour(1, 0), 0);
        check.due("hour 11 shines", x.shine(11, 3), 0);
        check.due("hour 11 shone", x.hour(11, 0), 3);
    }

    private static void treaties() {
        SnowSentries x = Check.told(TEXT);
        int[][] bounds = {{1, 99}, {0, 3}, {0, 1}};
        int[] was = {6, 1, 1};
        for (int what = 0; what < 3; what++) {
            check.due("treaty below " + what, x.treaty(what, bounds[what][0] - 1), BAD);
            check.due("treaty above " + what, x.treaty(what, bounds[what][1] + 1), BAD);
            check.due("treaty unchanged " + what, x.rule(2 + what), was[what]);
            check.due("treaty least " + what, x.treaty(what, bounds[what][0]), was[what]);
            check.due("treaty most " + what, x.treaty(what, bounds[what][1]), bounds[what][0]);
            check.due("treaty now " + what, x.rule(2 + what), bounds[what][1]);
        }
        check.due("treaty 3", x.treaty(3, 1), BAD);
        check.due("treaty -1", x.treaty(-1, 1), BAD);
    }

    private static void chances() {
        SnowSentries x = new SnowSentries();
        check.due("chance 10", x.chance(10), 3);
        check.due("chance 0", x.chance(0), 10);
        check.due("chance 11", x.chance(11), BAD);
        check.due("chance -1", x.chance(-1), BAD);
        check.due("chance now", x.rule(5), 0);
    }

    private static void lighting() {
        SnowSentries x = Check.told(TEXT);
        check.due("light on 4", x.light(4, 1, 0, 0), BAD);
        check.due("light on -1", x.light(-1, 1, 0, 0), BAD);
        check.due("light 0", x.light(0, 0, 0, 0), BAD);
        check.due("light 21", x.light(0, 21, 0, 0), BAD);
        check.due("light from -1", x.light(0, 1, -1, 0), BAD);
        check.due("light to 12", x.light(0, 1, 0, 12), BAD);
        check.due("light from 12", x.light(0, 1, 12, 12), BAD);
        check.due("light to less", x.light(0, 1, 5, 4), BAD);
        check.due("light", x.light(0, 20, 11, 11), 3);
        check.due("light", x.light(1, 1, 0, 0), 4);
        check.due("light", x.light(2, 2, 3, 5), 5);
        check.due("light", x.light(2, 3, 4, 6), 6);
        check.due("light a 7th", x.light(2, 3, 4, 6), FULL);
        check.due("light a wrong 7th", x.light(2, 0, 4, 6), BAD);
        check.due("quench 6", x.quench(6), BAD);
        check.due("quench -1", x.quench(-1), BAD);
        check.due("quench 1", x.quench(1), 5);
        int[] heats = {9, 20, 1, 2, 3};
        int[] places = {1, 0, 1, 2, 2};
        int[] from = {2, 11, 0, 3, 4};
        int[] to = {4, 11, 0, 5, 6};
        for (int b = 0; b < 5; b++) {
            check.due("moved up place " + b, x.brazier(b, 0), places[b]);
            check.due("moved up heat " + b, x.brazier(b, 1), heats[b]);
            check.due("moved up from " + b, x.brazier(b, 2), from[b]);
            check.due("moved up to " + b, x.brazier(b, 3), to[b]);
        }
        for (int left = 4; left >= 0; left--) {
            check.due("quench the last", x.quench(left), left);
        }
        check.due("quench none", x.quench(0), BAD);
    }

    private static void mending() {
        SnowSentries x = Check.told("snow 0 90;man west 0 plain 1 1 30 0;man east 0 plain 1 1 95 0;");
        check.due("mend", x.mend(0, 0, 10), 40);
        check.due("snow less", x.furlong(0, 0), 80);
        check.due("mend 0", x.mend(0, 0, 0), 40);
        check.due("more than lies there", x.mend(0, 0, 81), STATE);
        check.due("above 99", x.mend(0, 0, 60), FULL);
        check.due("more, and above 99", x.mend(1, 0, 81), STATE);
        check.due("99", x.mend(0, 0, 59), 99);
        check.due("snow left", x.furlong(0, 0), 21);
        check.due("head", x.man(0, 0, 3), 99);
        check.due("the other", x.mend(1, 0, 5), FULL);
        check.due("the other", x.mend(1, 0, 4), 99);
        check.due("much 100", x.mend(0, 0, 100), BAD);
        check.due("much -1", x.mend(0, 0, -1), BAD);
        check.due("nobody", x.mend(0, 1, 50), NONE);
        check.due("nobody, much 100", x.mend(0, 1, 100), BAD);
        check.due("side 2", x.mend(2, 0, 0), BAD);
        check.due("furlong 5", x.mend(0, 5, 0), BAD);
        check.due("all", x.all(), 90 + 32 + 97);
        SnowSentries y = Check.told("snow 0 9;man west 0 plain 1 1 30 0;");
        check.due("all that lies there", y.mend(0, 0, 9), 39);
        check.due("nothing is left", y.furlong(0, 0), 0);
        check.due("one of nothing", y.mend(0, 0, 1), STATE);
    }

    private static void carrying() {
        SnowSentries x = Check.told("furlongs 3;snow 0 200;snow 1 200;");
        check.due("carry", x.carry(0, 1, 150), 350);
        check.due("left", x.furlong(0, 0), 50);
        check.due("there", x.furlong(1, 0), 350);
        check.due("more than there is", x.carry(0, 1, 51), STATE);
        check.due("down", x.carry(1, 0, 350), 400);
        check.due("up", x.carry(0, 1, 0), 0);
        check.due("itself", x.carry(0, 0, 1), BAD);
        check.due("too far", x.carry(0, 2, 1), BAD);
        check.due("out below", x.carry(0, -1, 1), BAD);
        check.due("out above", x.carry(2, 3, 0), BAD);
        check.due("from above", x.carry(3, 2, 0), BAD);
        check.due("much -1", x.carry(0, 1, -1), BAD);
        check.due("wrapped", x.carry(Integer.MIN_VALUE, Integer.MAX_VALUE, 0), BAD);
        check.due("all", x.all(), 400);
    }
}
