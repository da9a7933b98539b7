/** Promises 38 to 44: images, sheets, counts. */
public final class ImagesTest {
    private static final int BAD = SnowSentries.BAD, STATE = SnowSentries.STATE, NONE = SnowSentries.NONE;
    private static final Check check = new Check("ImagesTest");

    public static void main(String[] args) {
        images();
        sheets();
        lanes();
        reading();
        tearing();
        counting();
        check.finish();
    }

    private static void images() {
        SnowSentries x = Check.told("furlongs 2;sun 3 3;frost 1;snow 0 20;man west 0 child 1 1 5 0;brazier 1 4 0 0;house 0 0 west;");
        check.due("no image", x.back(0), STATE);
        check.due("image 2", x.back(2), BAD);
        check.due("image -1", x.back(-1), BAD);
        check.due("keep 2", x.keep(2), BAD);
        check.due("keep -1", x.keep(-1), BAD);
        check.due("keep 0", x.keep(0), 0);
        check.due("keep 0 again", x.keep(0), 1);
        x.go(1);
        x.felt(3);
        check.due("keep 1", x.keep(1), 0);
        x.go(2);
        x.shine(5, 5);
        x.quench(0);
        x.treaty(0, 7);
        x.chance(9);
        check.due("he is gone", x.man(0, 0, 0), NONE);
        check.due("back 0", x.back(0), 0);
        check.due("hour", x.rule(1), 0);
        check.due("man", x.man(0, 0, 3), 5);
        check.due("snow", x.furlong(0, 0), 20);
        check.due("water", x.furlong(0, 1), 0);
        check.due("line", x.furlong(0, 2), 100);
        check.due("brazier", x.brazier(0, 1), 4);
        check.due("sun", x.hour(5, 0), 0);
        check.due("the treaty is none of it", x.rule(2), 7);
        check.due("chance is none of it", x.rule(5), 9);
        check.due("felt is none of it", x.count(3), 1);
        x.mend(0, 0, 9);
        x.carry(0, 1, 2);
        check.due("back 0 again", x.back(0), 0);
        check.due("the image is its own", x.man(0, 0, 3), 5);
        check.due("the image is its own", x.furlong(1, 0), 0);
        check.due("back 1", x.back(1), 1);
        check.due("man", x.man(0, 0, 3), 2);
        check.due("water", x.furlong(0, 1), 5);
        check.due("line", x.furlong(0, 2), 101);
        check.due("images", x.count(4), 2);
    }

    private static void sheets() {
        SnowSentries x = new SnowSentries();
        check.due("sheet 4", x.sheet(4, 0, 1), BAD);
        check.due("sheet -1", x.sheet(-1, 0, 1), BAD);
        check.due("lane 3", x.sheet(0, 3, 1), BAD);
        check.due("lane -1", x.sheet(0, -1, 1), BAD);
        check.due("41 cells", x.sheet(0, 0, 41), BAD);
        check.due("lane 3, below 0", x.sheet(0, 3, -1), BAD);
        check.due("sheet 4, below 0", x.sheet(4, 0, -1), BAD);
        check.due("below 0", x.sheet(0, 0, -1), -14);
        check.due("far below 0", x.sheet(0, 0, Integer.MIN_VALUE), -14);
        check.due("still nothing", x.count(6), NONE);
        check.due("0 cells", x.sheet(0, 0, 0), 1);
        check.due("0 cells", x.count(6), 0);
        check.due("no cell 0", x.lay(0, 0, 1), -12);
        check.due("40 cells", x.sheet(0, 2, 40), 1);
        check.due("cell 39", x.lay(0, 39, 1), 1);
        check.due("cell 40", x.lay(0, 40, 1), -12);
        check.due("cell -1", x.lay(0, -1, 1), -12);
        check.due("below 0 again", x.sheet(0, 0, -5), -14);
        check.due("still 40", x.count(6), 40);
        check.due("nothing", x.lay(1, 0, 1), -11);
        check.due("nothing, cell -1", x.lay(1, -1, 1), -11);
        check.due("lay on 4", x.lay(4, 0, 1), BAD);
        check.due("lay on -1", x.lay(-1, 0, 1), BAD);
        x.lay(0, 0, 9);
        x.read(0, 2, 0, 1);
        check.due("a cell", x.hour(0, 0), 9);
        x.sheet(0, 2, 2);
        x.read(0, 2, 0, 1);
        check.due("new cells are 0", x.hour(0, 0), 0);
    }

    private static void lanes() {
        int[][] dues = {{256 + 7, 7, -20, -20}, {65536 + 7, 7, 7, -20}, {255, -20, -20, -20}, {-256 + 4, 4, -20, -20},
            {Integer.MIN_VALUE, 0, 0, -20}, {9, 9, 9, 9}, {10, -20, -20, -20}};
        for (int[] due : dues) {
            for (int lane = 0; lane < 3; lane++) {
                SnowSentries x = new SnowSentries();
                x.sheet(2, lane, 1);
                x.lay(2, 0, due[0]);
                int want = due[1 + lane];
                check.due("read " + due[0] + " of lane " + lane, x.read(2, lane, 0, 1), want < 0 ? want : 1);
                check.due("sun by " + due[0] + " of lane " + lane, x.hour(0, 0), Math.max(0, want));
            }
        }
    }

    private static SnowSentries withSheet() {
        SnowSentries x = Check.told("sun 9 9 9 9 9 9 9 9 9 9 9 9;");
        x.sheet(0, 1, 6);
        for (int i = 0; i < 6; i++) {
            x.lay(0, i, i + 1);
        }
        return x;
    }

    private static void reading() {
        SnowSentries x = withSheet();
        check.due("from 2 on", x.read(0, 1, 2, 3), 3);
        int[] sun = {3, 4, 5, 9};
        for (int h = 0; h < 4; h++) {
            check.due("sun " + h, x.hour(h, 0), sun[h]);
        }
        check.due("no fault", x.torn(), 0);
        check.due("those ahead come", x.read(0, 1, 4, 12), 2);
        check.due("index", x.torn(), 2);
        check.due("came", x.hour(0, 0), 5);
        check.due("came", x.hour(1, 0), 6);
        check.due("did not come", x.hour(2, 0), 5);
        check.due("n 13", x.read(0, 1, 0, 13), BAD);
        check.due("n -1", x.read(0, 1, 0, -1), BAD);
        check.due("lane 3", x.read(0, 3, 0, 1), BAD);
        check.due("lane -1", x.read(0, -1, 0, 1), BAD);
        check.due("sheet 4", x.read(4, 1, 0, 1), BAD);
        check.due("sheet -1", x.read(-1, 1, 0, 1), BAD);
        check.due("refused leaves it", x.torn(), 2);
        x.lay(0, 3, 10);
        check.due("no sun", x.read(0, 1, 1, 4), -22);
        check.due("none came", x.hour(0, 0), 5);
        check.due("no sun ahead of the index", x.read(0, 1, 1, 12), -22);
        check.due("refused leaves it", x.torn(), 2);
        check.due("ahead of it", x.read(0, 1, 1, 2), 2);
        check.due("no fault", x.torn(), 0);
        x.lay(0, 3, -1);
        check.due("below 0 is no sun", x.read(0, 1, 3, 1), -20);
    }

    private static void tearing() {
        SnowSentries x = withSheet();
        check.due("at the end", x.read(0, 1, 6, 1), 0);
        check.due("index", x.torn(), 2);
        check.due("n 0", x.read(0, 1, 6, 0), 0);
        check.due("no fault", x.torn(), 0);
        check.due("below 0", x.read(0, 1, -1, 3), 0);
        check.due("index", x.torn(), 2);
        check.due("n 0 of another lane", x.read(0, 0, 0, 0), 0);
        check.due("no fault", x.torn(), 0);
        check.due("another lane", x.read(0, 2, 0, 1), 0);
        check.due("cast", x.torn(), 3);
        check.due("n 0 of nothing", x.read(1, 0, -5, 0), 0);
        check.due("no fault", x.torn(), 0);
        for (int lane = 0; lane < 3; lane++) {
            check.due("nothing", x.read(1, lane, -1, 2), 0);
            check.due("null", x.torn(), 1);
        }
        check.due("another lane, index", x.read(0, 0, 99, 1), 0);
        check.due("cast first", x.torn(), 3);
        check.due("most", x.read(0, 1, Integer.MAX_VALUE, 12), 0);
        check.due("index", x.torn(), 2);
        check.due("least", x.read(0, 1, Integer.MIN_VALUE, 12), 0);
        check.due("sun stays", x.hour(0, 0), 9);
        x.sheet(3, 1, 0);
        check.due("no cells", x.read(3, 1, 0, 1), 0);
        check.due("index", x.torn(), 2);
        check.due("all", x.read(0, 1, 0, 6), 6);
        check.due("no fault", x.torn(), 0);
    }

    private static void counting() {
        SnowSentries x = Check.told("sun 9;man west 0 child 0 0 3 0;man east 4 plain 0 0 0 0;brazier 0 1 0 0;house 0 0 west;house 0 0 east;");
        x.felt(1);
        x.felt(2);
        x.felt(3);
        x.keep(1);
        x.sheet(0, 0, 17);
        x.feed(0);
        x.end(5);
        int[] due = {2, 1, 2, 3, 1, 5, 17};
        for (int what = 0; what < due.length; what++) {
            check.due("count " + what, x.count(what), due[what]);
        }
        check.due("count 7", x.count(7), BAD);
        check.due("count -1", x.count(-1), BAD);
        x.go(1);
        check.due("the child is gone", x.count(0), 1);
        x.light(0, 1, 0, 0);
        check.due("one brazier more", x.count(1), 2);
    }
}
