/**
 * All that can be asked of an object, as one text: what it answers now, what its IMAGES, SHEETS and TAPE hold.
 * The object is used up by it. Two objects of which one had a refused call more must tell the same.
 */
final class Whole {
    static final int MOST_CALLS = 512;

    private final SnowSentries x;
    private final StringBuilder told = new StringBuilder();
    private int calls = 0;

    private Whole(SnowSentries x) {
        this.x = x;
    }

    /** What an object tells that had some calls so far; it must have calls enough left. */
    static String of(SnowSentries x, int callsSoFar) {
        Whole whole = new Whole(x);
        whole.tellAll();
        if (callsSoFar + whole.calls > MOST_CALLS) {
            throw new IllegalStateException("the object of a test had " + (callsSoFar + whole.calls) + " calls");
        }
        return whole.told.toString();
    }

    private void tell(long answer) {
        told.append(answer).append(' ');
        calls++;
    }

    private void title(String name) {
        told.append("| ").append(name).append(": ");
    }

    private void tellAll() {
        present("now");
        title("spies");
        for (int what = 0; what < 3; what++) {
            tell(x.spy(what));
            tell(x.spies(what));
        }
        for (int k = 0; k < 2; k++) {
            title("image " + k);
            tell(x.back(k));
            scene();
        }
        for (int k = 0; k < 4; k++) {
            cells(k);
        }
        title("tape");
        tell(x.land());
        present("by the tape");
    }

    /** All that is asked without a change. */
    private void present(String name) {
        title(name);
        tell(x.fault());
        tell(x.torn());
        tell(x.all());
        for (int what = 0; what < 6; what++) {
            tell(x.rule(what));
        }
        for (int what = 0; what < 7; what++) {
            tell(x.count(what));
        }
        for (int h = 0; h < 12; h++) {
            tell(x.hour(h, 1));
        }
        for (int h = 0; h < x.count(2); h++) {
            calls++;
            for (int what = 0; what < 3; what++) {
                tell(x.house(h, what));
            }
        }
        scene();
    }

    /** All that an IMAGE keeps. */
    private void scene() {
        int furlongs = x.rule(0);
        calls++;
        for (int h = 0; h < 12; h++) {
            tell(x.hour(h, 0));
        }
        for (int i = 0; i < furlongs; i++) {
            title("furlong " + i);
            for (int what = 0; what < 4; what++) {
                tell(x.furlong(i, what));
            }
            for (int side = 0; side < 2; side++) {
                int kind = x.man(side, i, 0);
                tell(kind);
                for (int what = 1; what < 6 && kind >= 0; what++) {
                    tell(x.man(side, i, what));
                }
            }
        }
        int fires = x.count(1);
        calls++;
        for (int b = 0; b < fires; b++) {
            title("brazier " + b);
            for (int what = 0; what < 4; what++) {
                tell(x.brazier(b, what));
            }
        }
    }

    /** The first CELLS of a SHEET, as far as they are SUN, and its lane. */
    private void cells(int k) {
        title("sheet " + k);
        for (int lane = 0; lane < 3; lane++) {
            tell(x.read(k, lane, 0, 4));
            tell(x.torn());
        }
        for (int h = 0; h < 4; h++) {
            tell(x.hour(h, 0));
        }
    }
}
