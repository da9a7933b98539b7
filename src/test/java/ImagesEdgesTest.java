/** Promises 38 to 44 with section 2: each sentence that names an edge of IMAGES, of SHEETS and their FAULTS, of what is counted. */
public final class ImagesEdgesTest {
    private static final int BAD = SnowSentries.BAD, STATE = SnowSentries.STATE, NONE = SnowSentries.NONE;
    private static final Check check = new Check("ImagesEdgesTest");
    private static final String LAND = "furlongs 3;sun 5 4 3;frost 1;treaty 2 1 1;snow 0 50;snow 2 7;man west 0 plain 9 8 40 3;man west 1 child 7 6 6 1 bare;man east 0 iced 5 4 33 2;"
        + "brazier 0 4 0 3;brazier 2 9 1 11;house 0 1 east;";

    public static void main(String[] args) {
        whetherThereWasOne();
        whatAnImageIs();
        whatAnImageIsNot();
        allIsAsTheImage();
        anImageIsItsOwn();
        imagesOfHours();
        aNewRowOfCellsZero();
        zeroToFortyCells();
        theLowestBits();
        eachFaultOfLay();
        readFromACellOn();
        thoseAheadCome();
        readOfNone();
        noSun();
        eachFaultOfRead();
        tornOfTheLatest();
        whatIsCounted();
        check.finish();
    }

    /** "IMAGE k (0, 1) is ..: whether there was one (1, 0)"; "STATE: there is none." */
    private static void whetherThereWasOne() {
        SnowSentries x = new SnowSentries();
        check.due("back 0", x.back(0), STATE);
        check.due("back 1", x.back(1), STATE);
        check.due("keep 1", x.keep(1), 0);
        check.due("back 0, of 1 alone", x.back(0), STATE);
        check.due("back 1", x.back(1), 0);
        check.due("keep 1 again", x.keep(1), 1);
        check.due("keep 0", x.keep(0), 0);
        check.due("keep 0 again", x.keep(0), 1);
        check.due("back 0", x.back(0), 0);
        check.due("images", x.count(4), 2);
        x.land();
        check.due("images are gone", x.count(4), 0);
        check.due("back 0", x.back(0), STATE);
        check.due("back 1", x.back(1), STATE);
        check.due("keep 0 anew", x.keep(0), 0);
        Check.write(x, "x");
        x.land();
        check.due("a refused text leaves it", x.back(0), 0);
        check.due("a refused text leaves it", x.keep(0), 1);
    }

    /** "is MEN, SNOW, WATER, LINES, the HOUR, BRAZIERS, SUN". */
    private static void whatAnImageIs() {
        for (int k = 0; k < 2; k++) {
            for (int hour : new int[] {0, 1, 5}) {
                SnowSentries x = Check.told(LAND);
                SnowSentries y = Check.told(LAND);
                if (hour > 0) {
                    x.go(hour);
                    y.go(hour);
                }
                x.keep(k);
                y.keep(k);
                x.go(4);
                x.carry(2, 1, 3);
                x.mend(0, 0, 2);
                x.quench(0);
                x.light(2, 1, 2, 3);
                x.light(1, 19, 5, 6);
                x.shine(0, 9);
                x.shine(11, 9);
                x.dawn();
                check.due("back", x.back(k), hour);
                check.dueText("all behind back at " + hour, Whole.of(x, 80), Whole.of(y, 80));
            }
        }
    }

    /** The TREATY, CHANCE, what is FELT, SHEETS, THE TAPE, HOUSES and FROST stay as they are. */
    private static void whatAnImageIsNot() {
        SnowSentries x = Check.told(LAND);
        x.keep(0);
        x.treaty(0, 9);
        x.treaty(1, 2);
        x.treaty(2, 0);
        x.chance(8);
        x.felt(6);
        x.sheet(0, 1, 9);
        x.feed(0);
        x.read(0, 2, 0, 1);
        x.back(0);
        check.due("head", x.rule(2), 9);
        check.due("eyes", x.rule(3), 2);
        check.due("uniforms", x.rule(4), 0);
        check.due("chance", x.rule(5), 8);
        check.due("felt", x.count(3), 1);
        check.due("cells", x.count(6), 9);
        check.due("tape", x.count(5), 8);
        check.due("houses", x.count(2), 1);
        check.due("frost", x.hour(0, 1), 1);
        check.due("torn", x.torn(), 3);
        check.due("images", x.count(4), 1);
        check.due("furlongs", x.rule(0), 3);
    }

    /** "All is as IMAGE k: its HOUR." */
    private static void allIsAsTheImage() {
        SnowSentries x = Check.told(LAND);
        x.keep(0);
        x.go(12);
        x.keep(1);
        for (int n = 0; n < 3; n++) {
            check.due("back to 0", x.back(0), 0);
            check.due("hour 0", x.rule(1), 0);
            check.due("the child is there", x.man(0, 1, 3), 6);
            check.due("no water", x.furlong(0, 1), 0);
            check.due("go", x.go(1), 1);
            check.due("back to 12", x.back(1), 12);
            check.due("hour 12", x.rule(1), 12);
            check.due("the child is gone", x.man(0, 1, 3), NONE);
            check.due("go", x.go(1), STATE);
        }
    }

    private static void anImageIsItsOwn() {
        SnowSentries x = Check.told(LAND);
        x.keep(0);
        x.keep(1);
        x.go(2);
        x.keep(1);
        check.due("0 is not 1", x.back(0), 0);
        check.due("0 is not 1", x.man(0, 0, 3), 40);
        x.mend(0, 0, 5);
        check.due("what is mended behind it", x.back(0), 0);
        check.due("is none of it", x.man(0, 0, 3), 40);
        check.due("1 is not 0", x.back(1), 2);
    }

    /** What would be is worked out by itself, and of an IMAGE as of any land. */
    private static void imagesOfHours() {
        SnowSentries x = Check.told(LAND);
        x.keep(0);
        int due = x.later(0, 0, 12);
        x.go(7);
        x.later(0, 0, 12);
        x.back(0);
        check.due("later", x.later(0, 0, 12), due);
        check.due("hour", x.rule(1), 0);
    }

    /** "A SHEET is a new row of CELLS 0: 1." */
    private static void aNewRowOfCellsZero() {
        for (int lane = 0; lane < 3; lane++) {
            SnowSentries x = Check.told("sun 9 9 9 9 9 9 9 9 9 9 9 9;");
            x.sheet(1, 2, 40);
            for (int i = 0; i < 40; i++) {
                x.lay(1, i, 7);
            }
            check.due("a new one", x.sheet(1, lane, 12), 1);
            check.due("all of it", x.read(1, lane, 0, 12), 12);
            for (int h = 0; h < 12; h++) {
                check.due("cell " + h, x.hour(h, 0), 0);
            }
            check.due("a larger one", x.sheet(1, lane, 40), 1);
            for (int f = 0; f < 40; f++) {
                x.shine(0, 9);
                x.read(1, lane, f, 1);
                check.due("cell " + f, x.hour(0, 0), 0);
            }
            check.due("a refused one", x.sheet(1, lane, 41), BAD);
            check.due("a refused one", x.sheet(1, lane, -1), -14);
            check.due("leaves the cells", x.lay(1, 39, 1), 1);
        }
    }

    /** "with 0 to 40 CELLS, or nothing (at first)"; "n below 0". */
    private static void zeroToFortyCells() {
        for (int n = -1; n <= 41; n++) {
            SnowSentries x = new SnowSentries();
            check.due("sheet of " + n, x.sheet(0, 0, n), n < 0 ? -14 : n > 40 ? BAD : 1);
            check.due("cells of " + n, x.count(6), n < 0 || n > 40 ? NONE : n);
            check.due("the last of " + n, x.lay(0, n - 1, 0), n < 0 || n > 40 ? -11 : n == 0 ? -12 : 1);
            check.due("behind the last of " + n, x.lay(0, n, 0), n < 0 || n > 40 ? -11 : -12);
        }
        // Each SHEET by itself.
        SnowSentries x = new SnowSentries();
        for (int k = 0; k < 4; k++) {
            check.due("nothing yet on " + k, x.lay(k, 0, 1), -11);
            check.due("sheet " + k, x.sheet(k, k % 3, k + 1), 1);
            check.due("its last cell", x.lay(k, k, k + 1), 1);
            check.due("behind it", x.lay(k, k + 1, 1), -12);
        }
        for (int k = 0; k < 4; k++) {
            check.due("read of " + k, x.read(k, k % 3, k, 1), 1);
            check.due("cell of " + k, x.hour(0, 0), k + 1);
        }
    }

    /** "CELL i of a SHEET becomes v (its lowest bits)"; "all with a sign". */
    private static void theLowestBits() {
        int[] values = {0, 9, 127, 128, 255, 256, 256 + 9, -1, -128, -129, -247, -256, 32767, 32768, 65535, 65536, 65536 + 5, -32768, -65536, -65527,
            Integer.MAX_VALUE, Integer.MIN_VALUE, Integer.MIN_VALUE + 3};
        for (int v : values) {
            int[] cells = {(byte) v, (short) v, v};
            for (int lane = 0; lane < 3; lane++) {
                SnowSentries x = Check.told("sun 4;");
                x.sheet(0, lane, 1);
                check.due("lay " + v, x.lay(0, 0, v), 1);
                boolean sun = cells[lane] >= 0 && cells[lane] <= 9;
                check.due("read " + v + " of lane " + lane, x.read(0, lane, 0, 1), sun ? 1 : -20);
                check.due("sun of " + v + " by lane " + lane, x.hour(0, 0), sun ? cells[lane] : 4);
            }
        }
    }

    /** "-10 less the FAULT: NULL, INDEX." */
    private static void eachFaultOfLay() {
        SnowSentries x = new SnowSentries();
        x.sheet(2, 0, 5);
        check.due("null", x.lay(3, 0, 1), -11);
        check.due("null, index below 0", x.lay(3, -1, 1), -11);
        check.due("null, far", x.lay(3, Integer.MAX_VALUE, 1), -11);
        check.due("index -1", x.lay(2, -1, 1), -12);
        check.due("index 5", x.lay(2, 5, 1), -12);
        check.due("index 4", x.lay(2, 4, 1), 1);
        check.due("index 0", x.lay(2, 0, 1), 1);
        check.due("the least", x.lay(2, Integer.MIN_VALUE, 1), -12);
        check.due("the most", x.lay(2, Integer.MAX_VALUE, 1), -12);
        check.due("lay leaves torn", x.torn(), 0);
    }

    private static SnowSentries withCells(int lane, int... cells) {
        SnowSentries x = Check.told("sun 9 9 9 9 9 9 9 9 9 9 9 9;");
        x.sheet(0, lane, cells.length);
        for (int i = 0; i < cells.length; i++) {
            x.lay(0, i, cells[i]);
        }
        return x;
    }

    private static void dueSun(String name, SnowSentries x, int... sun) {
        for (int h = 0; h < 12; h++) {
            check.due(name + ", sun of " + h, x.hour(h, 0), h < sun.length ? sun[h] : 9);
        }
    }

    /** "SUN of n HOURS (0 to 12) from HOUR 0 on is read .., from CELL f on: how many came." */
    private static void readFromACellOn() {
        for (int lane = 0; lane < 3; lane++) {
            SnowSentries x = withCells(lane, 1, 2, 3, 4, 5, 6, 7, 8, 0, 1, 2, 3, 4, 5);
            check.due("12 of 14", x.read(0, lane, 0, 12), 12);
            check.due("no fault", x.torn(), 0);
            dueSun("12 of 14", x, 1, 2, 3, 4, 5, 6, 7, 8, 0, 1, 2, 3);
            check.due("the last 12 of 14", x.read(0, lane, 2, 12), 12);
            check.due("no fault", x.torn(), 0);
            dueSun("the last 12 of 14", x, 3, 4, 5, 6, 7, 8, 0, 1, 2, 3, 4, 5);
            check.due("the last 11, and one more", x.read(0, lane, 3, 12), 11);
            check.due("index", x.torn(), 2);
            check.due("hour 11 stays", x.hour(11, 0), 5);
            check.due("one", x.read(0, lane, 13, 1), 1);
            check.due("no fault", x.torn(), 0);
            // From HOUR 0 on, whatever the HOUR is.
            x.go(5);
            check.due("at 5", x.read(0, lane, 0, 1), 1);
            check.due("of hour 0", x.hour(0, 0), 1);
            check.due("not of hour 5", x.hour(5, 0), 0);
        }
    }

    /** "What the machine refuses: those ahead come". */
    private static void thoseAheadCome() {
        for (int size = 0; size <= 4; size++) {
            int[] cells = {1, 2, 3, 4};
            for (int f = -2; f <= 5; f++) {
                for (int n = 0; n <= 5; n++) {
                    SnowSentries x = withCells(1, java.util.Arrays.copyOf(cells, size));
                    int came = n == 0 || f < 0 || f >= size ? 0 : Math.min(n, size - f);
                    String name = "of " + size + " from " + f + " on " + n;
                    check.due(name, x.read(0, 1, f, n), came);
                    check.due(name + ", torn", x.torn(), came < n ? 2 : 0);
                    for (int h = 0; h < 6; h++) {
                        check.due(name + ", sun of " + h, x.hour(h, 0), h < came ? cells[f + h] : 9);
                    }
                }
            }
        }
    }

    /** "of n 0: 0, no FAULT, whatever the SHEET is". */
    private static void readOfNone() {
        SnowSentries x = withCells(1, 99, 1);
        for (int k = 0; k < 4; k++) {
            for (int lane = 0; lane < 3; lane++) {
                for (int f : new int[] {Integer.MIN_VALUE, -1, 0, 1, 2, 40, Integer.MAX_VALUE}) {
                    check.due("none of sheet " + k + ", lane " + lane + ", from " + f, x.read(k, lane, f, 0), 0);
                    check.due("torn of none", x.torn(), 0);
                }
            }
        }
        x.read(1, 0, 0, 1);
        check.due("a fault", x.torn(), 1);
        x.read(1, 0, 0, 0);
        check.due("none any more", x.torn(), 0);
        dueSun("none came", x);
    }

    /** "-20 less i (0 on): CELL f + i is no SUN: then none came." */
    private static void noSun() {
        for (int at = 0; at < 12; at++) {
            for (int wrong : new int[] {-1, 10, 127, -128}) {
                int[] cells = {1, 2, 3, 4, 5, 6, 7, 8, 0, 1, 2, 3};
                cells[at] = wrong;
                SnowSentries x = withCells(0, cells);
                check.due("no sun at " + at, x.read(0, 0, 0, 12), -20 - at);
                dueSun("none came", x);
                check.due("no sun at " + at + ", from 1 on", x.read(0, 0, 1, 12), at == 0 ? 11 : -20 - (at - 1));
                SnowSentries y = withCells(0, cells);
                check.due("those ahead of " + at, y.read(0, 0, 0, at), at);
                check.due("it alone", y.read(0, 0, at, 1), -20);
            }
        }
        // The first of two; ahead of INDEX, which would be met behind it; not of another lane, which is not read.
        SnowSentries x = withCells(2, 1, 10, 11);
        check.due("the first of two", x.read(0, 2, 0, 3), -21);
        check.due("ahead of the end", x.read(0, 2, 0, 12), -21);
        check.due("another lane", x.read(0, 1, 1, 2), 0);
        check.due("cast", x.torn(), 3);
        check.due("behind the end", x.read(0, 2, 3, 1), 0);
        check.due("index", x.torn(), 2);
        dueSun("none came", x);
        SnowSentries edge = withCells(2, 0, 9, -1, 10);
        check.due("0 and 9 are sun", edge.read(0, 2, 0, 2), 2);
        dueSun("0 and 9 are sun", edge, 0, 9);
    }

    /** "1 NULL (nothing), 2 INDEX, 3 CAST (another lane)". */
    private static void eachFaultOfRead() {
        for (int lane = 0; lane < 3; lane++) {
            for (int as = 0; as < 3; as++) {
                for (int f : new int[] {-1, 0, 1, 2, Integer.MAX_VALUE, Integer.MIN_VALUE}) {
                    SnowSentries x = withCells(lane, 4, 5);
                    boolean there = f == 0 || f == 1;
                    check.due("lane " + lane + " as " + as + " from " + f, x.read(0, as, f, 1), lane == as && there ? 1 : 0);
                    check.due("its fault", x.torn(), lane != as ? 3 : there ? 0 : 2);
                    check.due("nothing as " + as, x.read(1, as, f, 1), 0);
                    check.due("its fault", x.torn(), 1);
                }
            }
        }
        // A row without CELLS is not nothing.
        SnowSentries x = withCells(1);
        check.due("no cells", x.read(0, 1, 0, 1), 0);
        check.due("index", x.torn(), 2);
        check.due("no cells, another lane", x.read(0, 0, 0, 1), 0);
        check.due("cast", x.torn(), 3);
    }

    /** "The FAULT of the latest read() that answered 0 or more; 0 (one that is refused leaves it)." */
    private static void tornOfTheLatest() {
        SnowSentries x = withCells(1, 4, 5, 10);
        // SHEET, lane and CELL: of nothing, behind the last CELL, of another lane.
        int[][] faults = {{1, 1, 0}, {0, 1, 3}, {0, 2, 0}};
        int[] due = {1, 2, 3};
        for (int n = 0; n < 3; n++) {
            x.read(faults[n][0], faults[n][1], faults[n][2], 1);
            check.due("fault " + n, x.torn(), due[n]);
            check.due("n 13", x.read(0, 1, 0, 13), BAD);
            check.due("left by BAD", x.torn(), due[n]);
            check.due("no sun", x.read(0, 1, 2, 1), -20);
            check.due("left by no sun", x.torn(), due[n]);
            x.sheet(3, 0, -1);
            x.lay(3, 0, 0);
            x.lay(0, 40, 0);
            check.due("left by sheet and lay", x.torn(), due[n]);
        }
        check.due("a whole one", x.read(0, 1, 0, 2), 2);
        check.due("no fault", x.torn(), 0);
        check.due("no sun", x.read(0, 1, 1, 2), -21);
        check.due("left", x.torn(), 0);
        SnowSentries y = new SnowSentries();
        check.due("at first", y.torn(), 0);
    }

    /** "How many: 0 MEN, 1 BRAZIERS, 2 HOUSES, 3 FELT, 4 IMAGES, 5 bytes on THE TAPE, 6 CELLS of SHEET 0 (NONE: nothing)." */
    private static void whatIsCounted() {
        SnowSentries x = new SnowSentries();
        int[] none = {0, 0, 0, 0, 0, 0, NONE};
        for (int what = 0; what < 7; what++) {
            check.due("new count " + what, x.count(what), none[what]);
        }
        x.sheet(1, 0, 5);
        check.due("sheet 1 is not sheet 0", x.count(6), NONE);
        x.sheet(0, 0, 0);
        check.due("no cells are not nothing", x.count(6), 0);
        x.sheet(0, 2, 40);
        check.due("40 cells", x.count(6), 40);
        StringBuilder men = new StringBuilder("furlongs 10;");
        for (int i = 0; i < 10; i++) {
            men.append("man west ").append(i).append(" plain 0 0 0 0;");
        }
        SnowSentries ten = Check.told(men.toString());
        check.due("ten men of nothing", ten.count(0), 10);
        SnowSentries full = Check.told("brazier 0 1 0 0;".repeat(6) + "house 0 0 west;".repeat(8));
        check.due("six braziers", full.count(1), 6);
        check.due("eight houses", full.count(2), 8);
        for (int n = 1; n <= 5; n++) {
            full.felt(0);
            check.due("felt", full.count(3), n);
        }
        full.keep(1);
        check.due("one image", full.count(4), 1);
        full.keep(1);
        check.due("still one image", full.count(4), 1);
        full.keep(0);
        check.due("two images", full.count(4), 2);
        for (int n = 1; n <= 50; n++) {
            full.feed(0);
        }
        check.due("400 bytes", full.count(5), 400);
        full.feed(0);
        check.due("still 400 bytes", full.count(5), 400);
    }
}
