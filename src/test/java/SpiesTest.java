/** Promises 31 to 37: what was FELT, forecasts, talks. */
public final class SpiesTest {
    private static final int BAD = SnowSentries.BAD, STATE = SnowSentries.STATE, FULL = SnowSentries.FULL, NONE = SnowSentries.NONE;
    private static final Check check = new Check("SpiesTest");

    public static void main(String[] args) {
        feeling();
        oneSpy();
        twoSpies();
        odds();
        talking();
        check.finish();
    }

    private static void feeling() {
        SnowSentries x = Check.told("furlongs 2;");
        check.due("forget nothing", x.forget(), 0);
        check.due("felt 100", x.felt(100), BAD);
        check.due("felt -1", x.felt(-1), BAD);
        check.due("felt 99", x.felt(99), 1);
        check.due("felt 0", x.felt(0), 2);
        check.due("a third", x.felt(0), FULL);
        check.due("a wrong third", x.felt(100), BAD);
        check.due("count", x.count(3), 2);
        check.due("forget", x.forget(), 2);
        check.due("count", x.count(3), 0);
        check.due("felt again", x.felt(5), 1);
    }

    private static void oneSpy() {
        SnowSentries x = Check.told("furlongs 4;brazier 0 20 0 11;");
        check.due("nothing felt", x.spy(0), STATE);
        check.due("nothing felt", x.spy(1), STATE);
        check.due("nothing felt, what 3", x.spy(3), BAD);
        check.due("nothing felt, what -1", x.spy(-1), BAD);
        x.felt(6);
        // 0: 6; 1: 10; 2: 14; 3: 18.
        check.due("how many", x.spy(0), 4);
        check.due("first", x.spy(1), 0);
        check.due("its heat", x.spy(2), 6);
        x.felt(10);
        check.due("how many", x.spy(0), 3);
        check.due("first", x.spy(1), 1);
        check.due("its heat", x.spy(2), 10);
        x.felt(9);
        check.due("none", x.spy(0), 0);
        check.due("none", x.spy(1), NONE);
        check.due("none", x.spy(2), NONE);
        x.forget();
        x.felt(0);
        // 1: 1 to 4; 2: 1 to 8; 3: 1 to 12.
        check.due("out of reach", x.spy(0), 24);
        check.due("first", x.spy(1), 1);
        check.due("its heat", x.spy(2), 1);
        x.forget();
        x.felt(21);
        check.due("above 20", x.spy(0), 0);
        x.forget();
        x.felt(20);
        check.due("20", x.spy(0), 1);
    }

    private static void twoSpies() {
        SnowSentries x = Check.told("furlongs 3;");
        check.due("nothing felt", x.spies(0), STATE);
        check.due("nothing felt, what 3", x.spies(3), BAD);
        check.due("nothing felt, what -1", x.spies(-1), BAD);
        x.felt(20);
        x.felt(20);
        x.felt(20);
        // On 0 and 2 each FURLONG feels a + b - 8, if both are 8 or more: 8 and 20 to 20 and 8.
        check.due("alike", x.spies(0), 13);
        check.due("alike", x.spies(1), 2);
        check.due("alike", x.spies(2), 820);
        x.forget();
        x.felt(12);
        x.felt(8);
        x.felt(12);
        // On 0 and 2: a + b is 20 by the first, 16 by the second.
        check.due("none", x.spies(0), 0);
        check.due("none", x.spies(1), NONE);
        check.due("none", x.spies(2), NONE);
        x.forget();
        x.felt(10);
        x.felt(10);
        x.felt(6);
        // 0 and 1: a + b - 4 = 10, a - 4 + b = 10, and on 2 (a - 8) + (b - 4) or (b - 4) alone.
        check.due("pairs", x.spies(0), pairs(3, 10, 10, 6));
        check.due("first pair", x.spies(1), 1);
        check.due("its heats", x.spies(2), 410);
        x.forget();
        x.felt(0);
        x.felt(0);
        x.felt(3);
        // On 1 none may stand; on 0 neither: only 2 is left, so there is no pair.
        check.due("no pair", x.spies(0), 0);
        SnowSentries y = Check.told("furlongs 10;");
        for (int v : new int[] {0, 0, 0, 0, 0, 0, 0, 0, 3, 5}) {
            y.felt(v);
        }
        check.due("far pair", y.spies(0), pairs(10, 0, 0, 0, 0, 0, 0, 0, 0, 3, 5));
        check.due("far pair", y.spies(1), 89);
        check.due("far pair", y.spies(2), 205);
        SnowSentries z = Check.told("furlongs 1;");
        z.felt(4);
        check.due("one furlong, one", z.spy(0), 1);
        check.due("one furlong, two", z.spies(0), 0);
    }

    /** All pairs, counted one by one. */
    private static int pairs(int furlongs, int... felt) {
        int found = 0;
        for (int i = 0; i < furlongs; i++) {
            for (int j = i + 1; j < furlongs; j++) {
                for (int a = 1; a <= 20; a++) {
                    for (int b = 1; b <= 20; b++) {
                        boolean fits = true;
                        for (int k = 0; k < felt.length; k++) {
                            int one = Math.max(0, a - 4 * Math.abs(i - k));
                            int other = Math.max(0, b - 4 * Math.abs(j - k));
                            fits = fits && one + other == felt[k];
                        }
                        found += fits ? 1 : 0;
                    }
                }
            }
        }
        return found;
    }

    private static void dueOdds(SnowSentries x, int side, int i, int t, long above, long below) {
        check.due("odds " + side + " " + i + " " + t + " above", x.odds(side, i, t, 0), above);
        check.due("odds " + side + " " + i + " " + t + " below", x.odds(side, i, t, 1), below);
    }

    private static void odds() {
        SnowSentries x = Check.told("furlongs 5;sun 1 0 9;man west 0 plain 0 0 2 0;man west 1 iced 0 0 1 0;man west 2 shaded 0 0 1 0;"
            + "man west 3 plain 9 9 0 0;man east 0 plain 0 0 13 0;man east 1 packed 0 0 9 0;");
        dueOdds(x, 0, 0, 0, 0, 1);
        dueOdds(x, 0, 0, 1, 3, 10);
        // He holds till 2 if neither HOUR brings one more.
        dueOdds(x, 0, 0, 2, 51, 100);
        dueOdds(x, 0, 0, 3, 1, 1);
        // Half of 1 is 0, of 2 is 1.
        dueOdds(x, 0, 1, 1, 3, 10);
        dueOdds(x, 0, 2, 12, 0, 1);
        dueOdds(x, 0, 3, 0, 1, 1);
        // 13 less 10 and how many of 12 HOURS bring one more: 3 or more of 12.
        long lost = 0;
        for (int set = 0; set < 1 << 12; set++) {
            int more = Integer.bitCount(set);
            if (more >= 3) {
                long weight = 1;
                for (int h = 0; h < 12; h++) {
                    weight *= h < more ? 3 : 7;
                }
                lost += weight;
            }
        }
        long whole = 1000000000000L;
        long shared = java.math.BigInteger.valueOf(lost).gcd(java.math.BigInteger.valueOf(whole)).longValue();
        dueOdds(x, 1, 0, 12, lost / shared, whole / shared);
        // SUN 9 and one more is 10, of which packed loses 2.
        dueOdds(x, 1, 1, 3, 0, 1);
        check.due("nobody", x.odds(1, 2, 3, 0), NONE);
        check.due("nobody, what 2", x.odds(1, 2, 3, 2), BAD);
        check.due("what -1", x.odds(0, 0, 3, -1), BAD);
        check.due("till 13", x.odds(0, 0, 13, 0), BAD);
        check.due("side", x.odds(2, 0, 3, 0), BAD);
        check.due("furlong", x.odds(0, 5, 3, 0), BAD);
        x.chance(10);
        dueOdds(x, 0, 0, 1, 1, 1);
        x.chance(0);
        dueOdds(x, 0, 0, 1, 0, 1);
        dueOdds(x, 0, 0, 2, 0, 1);
        x.chance(5);
        dueOdds(x, 0, 0, 1, 1, 2);
        x.treaty(1, 1);
        dueOdds(x, 0, 0, 1, 1, 1);
        x.treaty(1, 0);
        x.go(1);
        check.due("behind", x.odds(0, 0, 0, 0), BAD);
        dueOdds(x, 0, 0, 1, 0, 1);
        dueOdds(x, 0, 0, 2, 1, 2);
    }

    private static void talking() {
        SnowSentries x = Check.told("treaty 50 1 1;man west 0 plain 0 0 10 1;man west 1 plain 0 0 20 1;man west 2 plain 0 0 99 0;"
            + "man east 0 plain 0 0 15 1;man east 1 plain 0 0 99 1 bare;");
        check.due("head", x.talks(0), 11);
        check.due("how many", x.talks(1), 1);
        check.due("what 2", x.talks(2), BAD);
        check.due("what -1", x.talks(-1), BAD);
        check.due("treaty stays", x.rule(2), 50);
        check.due("strength", x.strength(0), 0);
        x.treaty(0, 12);
        check.due("strength 0", x.strength(0), 1);
        check.due("strength 1", x.strength(1), 1);
        x.treaty(0, 1);
        check.due("strength 0", x.strength(0), 2);
        check.due("strength side", x.strength(2), BAD);
        check.due("strength side", x.strength(-1), BAD);
        x.treaty(1, 0);
        check.due("all else as it is", x.talks(0), NONE);
        x.treaty(2, 0);
        check.due("without uniforms", x.talks(0), 11);
        check.due("without uniforms", x.talks(1), 2);
        SnowSentries y = Check.told("man west 0 plain 0 0 99 0;");
        check.due("none", y.talks(0), NONE);
        check.due("none", y.talks(1), NONE);
        y.treaty(1, 3);
        check.due("none on both", y.talks(0), 1);
        check.due("none on both", y.talks(1), 0);
    }
}
