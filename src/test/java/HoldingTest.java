/** Promises 26 to 30: holding till an HOUR, crews, gaps, a HEAD that is led. */
public final class HoldingTest {
    private static final int BAD = SnowSentries.BAD, STATE = SnowSentries.STATE, NONE = SnowSentries.NONE;
    private static final Check check = new Check("HoldingTest");

    public static void main(String[] args) {
        holding();
        needing();
        crewsSent();
        crewsOfEqualNeed();
        gaps();
        leading();
        check.finish();
    }

    private static void holding() {
        SnowSentries x = Check.told("furlongs 4;sun 2 2 2;treaty 3 1 1;man west 0 plain 0 0 7 1;man west 1 plain 0 0 9 0;"
            + "man west 2 packed 0 0 9 1 bare;man west 3 shaded 0 0 3 1;man east 0 iced 0 0 2 3;");
        int[] west = {9, 9, 9, 8};
        for (int t = 0; t < 4; t++) {
            check.due("west holds till " + t, x.holds(0, t), west[t]);
            check.due("east holds till " + t, x.holds(1, t), 0);
        }
        check.due("till 12", x.holds(0, 12), 8);
        check.due("till 13", x.holds(0, 13), BAD);
        check.due("till -1", x.holds(0, -1), BAD);
        check.due("side 2", x.holds(2, 1), BAD);
        x.go(2);
        check.due("behind", x.holds(0, 1), BAD);
        check.due("from now on", x.holds(0, 2), 9);
        check.due("from now on", x.holds(0, 3), 8);
        x.go(10);
        check.due("at 12", x.holds(0, 12), 8);
    }

    private static void needing() {
        SnowSentries x = Check.told("furlongs 4;sun 9 9 9 9 9 9 9 9 9 9 9 9;treaty 3 1 0;man west 0 plain 0 0 7 1;"
            + "man west 1 child 0 0 0 1;man west 2 iced 0 0 9 0;man west 3 shaded 0 0 2 1;");
        check.due("now", x.need(0, 0, 0), 0);
        check.due("till 1", x.need(0, 0, 1), 5);
        check.due("till 10", x.need(0, 0, 10), 86);
        check.due("99 in all", x.need(0, 0, 10) + 7, 93);
        check.due("till 11", x.need(0, 0, 11), NONE);
        check.due("child", x.need(0, 1, 0), 3);
        check.due("child till 2", x.need(0, 1, 2), 21);
        check.due("no eyes", x.need(0, 2, 0), NONE);
        check.due("shaded", x.need(0, 3, 12), 1);
        check.due("nobody", x.need(1, 0, 12), NONE);
        check.due("side", x.need(2, 0, 12), BAD);
        check.due("furlong", x.need(0, 4, 12), BAD);
        check.due("hour 13", x.need(0, 0, 13), BAD);
        x.treaty(0, 9);
        check.due("99 is enough", x.need(0, 0, 10), 92);
        x.treaty(0, 10);
        check.due("100 would be enough", x.need(0, 0, 10), NONE);
        x.treaty(0, 99);
        check.due("treaty 99, now", x.need(0, 0, 0), 92);
        check.due("treaty 99, till 1", x.need(0, 0, 1), NONE);
        x.go(1);
        check.due("behind", x.need(0, 0, 0), BAD);
        check.due("head gone", x.need(0, 0, 1), 99);
    }

    private static void crewsSent() {
        SnowSentries x = Check.told("furlongs 6;sun 1;treaty 10 0 0;snow 0 9;snow 1 9;snow 2 9;snow 3 3;snow 4 99;"
            + "man west 0 plain 0 0 8 0;man west 1 plain 0 0 3 0;man west 2 plain 0 0 11 0;man west 3 plain 0 0 7 0;man west 4 plain 0 0 10 0;");
        // NEEDS till 1: 3, 8, 0, 4 (3 lie there), 1, nobody.
        int[][] due = {{1, 0, 0}, {2, 1, 16}, {3, 4, 17}, {4, 12, 19}, {4, 12, 19}};
        for (int n = 0; n < 5; n++) {
            for (int what = 0; what < 3; what++) {
                check.due("crews " + n + " " + what, x.crews(0, 1, n, what), due[n][what]);
            }
        }
        check.due("crews 10", x.crews(0, 1, 10, 0), 4);
        check.due("crews 11", x.crews(0, 1, 11, 0), BAD);
        check.due("crews -1", x.crews(0, 1, -1, 0), BAD);
        check.due("what 3", x.crews(0, 1, 1, 3), BAD);
        check.due("what -1", x.crews(0, 1, 1, -1), BAD);
        check.due("side", x.crews(2, 1, 1, 0), BAD);
        check.due("till 13", x.crews(0, 13, 1, 0), BAD);
        check.due("east", x.crews(1, 1, 9, 0), 0);
        x.go(1);
        check.due("behind", x.crews(0, 0, 1, 0), BAD);
        check.due("nothing is changed", x.furlong(4, 0), 98);
    }

    private static void crewsOfEqualNeed() {
        StringBuilder text = new StringBuilder("furlongs 10;treaty 9 0 0;");
        for (int i = 0; i < 10; i++) {
            text.append("snow ").append(i).append(" 9;man east ").append(i).append(" iced 0 0 ").append(i == 7 ? 6 : 5).append(" 0;");
        }
        SnowSentries x = Check.told(text.toString());
        check.due("one", x.crews(1, 5, 1, 2), 128);
        check.due("three", x.crews(1, 5, 3, 2), 131);
        check.due("three's snow", x.crews(1, 5, 3, 1), 11);
        check.due("ten", x.crews(1, 5, 10, 2), 1023);
        check.due("ten hold", x.crews(1, 5, 10, 0), 10);
    }

    private static void gaps() {
        SnowSentries x = Check.told("furlongs 4;sun 0 1 1 1 1 1 1 1 1 1 1 1;treaty 2 0 0;man west 0 shaded 0 0 2 0;man west 1 plain 0 0 6 0;"
            + "man west 2 plain 0 0 6 0;man west 3 plain 0 0 1 0;man east 2 shaded 0 0 9 0;");
        check.due("the hour", x.gap(0, 0), 6);
        check.due("the furlong", x.gap(0, 1), 1);
        check.due("east", x.gap(1, 0), NONE);
        check.due("east", x.gap(1, 1), NONE);
        check.due("side", x.gap(2, 0), BAD);
        check.due("what", x.gap(0, 2), BAD);
        check.due("what", x.gap(0, -1), BAD);
        x.go(5);
        check.due("the next hour", x.gap(0, 0), 6);
        x.go(1);
        check.due("they do not count any more", x.gap(0, 0), NONE);
        SnowSentries y = Check.told("sun 0 0 0 0 0 0 0 0 0 0 0 1;man east 4 plain 0 0 1 0;");
        check.due("till 12", y.gap(1, 0), 12);
        check.due("till 12", y.gap(1, 1), 4);
        y.go(12);
        check.due("at 12", y.gap(1, 0), NONE);
    }

    private static void leading() {
        SnowSentries x = Check.told("furlongs 4;sun 0 0 0 0 0 0 0 0 0 0 0 1;brazier 0 20 0 11;brazier 3 2 5 6;");
        // FURLONGS have 20, 16, 12, 8 each HOUR (10 on 3 in HOURS 5, 6): all the way on 3 is the least.
        int least = 8 * 10 + 10 * 2 + 1;
        check.due("too much heat", x.lead(3, 99, 0), 0);
        check.due("so any way", x.lead(3, 99, 10), 2);
        check.due("so any way", x.lead(3, 99, 11), 1);
        check.due("so any way", x.lead(3, 99, 13), 0);
        x.go(2);
        check.due("from 2 on", x.lead(3, 99, 0), 99 - (least - 16));
        for (int k = 0; k < 10; k++) {
            check.due("way " + k, x.lead(3, 99, 10 + k), 3);
        }
        check.due("no such hour", x.lead(3, 99, 20), BAD);
        check.due("exactly nothing", x.lead(3, least - 16, 0), 0);
        check.due("exactly nothing: any way", x.lead(3, least - 16, 10), 2);
        check.due("one is left", x.lead(3, least - 15, 0), 1);
        check.due("one is left", x.lead(3, least - 15, 10), 3);
        check.due("what 1", x.lead(3, 9, 1), BAD);
        check.due("what 9", x.lead(3, 9, 9), BAD);
        check.due("what -1", x.lead(3, 9, -1), BAD);
        check.due("furlong", x.lead(4, 9, 0), BAD);
        check.due("furlong", x.lead(-1, 9, 0), BAD);
        check.due("much 0", x.lead(3, 0, 0), BAD);
        check.due("much 100", x.lead(3, 100, 0), BAD);
        x.go(9);
        check.due("last hour", x.lead(1, 20, 0), 20 - 13);
        check.due("last hour", x.lead(1, 20, 10), 2);
        check.due("last hour", x.lead(1, 20, 11), BAD);
        x.go(1);
        check.due("at 12", x.lead(3, 9, 0), STATE);
        check.due("at 12", x.lead(3, 9, 10), BAD);
        check.due("at 12, much 0", x.lead(3, 0, 0), BAD);
        SnowSentries y = Check.told("furlongs 5;brazier 0 3 3 3;brazier 1 3 3 3;");
        // Only in HOUR 3 it must be on 2 or above: the first WAY goes down as long as it may.
        int[] due = {1, 0, 1, 2, 1, 0, 0, 0, 0, 0, 0, 0};
        for (int k = 0; k < 12; k++) {
            check.due("first way " + k, y.lead(2, 5, 10 + k), due[k]);
        }
        check.due("all of it", y.lead(2, 5, 0), 5);
        SnowSentries z = Check.told("furlongs 1;sun 1;");
        check.due("one furlong", z.lead(0, 5, 0), 4);
        check.due("one furlong", z.lead(0, 5, 21), 0);
    }
}
