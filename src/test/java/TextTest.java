/** Promises 1 to 5: a new object, THE TAPE, the text and its FAULTS. */
public final class TextTest {
    private static final Check check = new Check("TextTest");

    public static void main(String[] args) {
        newObject();
        feedAndEnd();
        textsThatAreTaken();
        tokenFaults();
        misplaced();
        outOfBounds();
        twice();
        tooMany();
        noFurlong();
        firstFaultMet();
        whatAFaultLeaves();
        whatATextReplaces();
        check.finish();
    }

    /** A text on a new object: how many lines. */
    private static void taken(String text, int lines) {
        SnowSentries x = new SnowSentries();
        Check.write(x, text);
        check.due("land of '" + text + "'", x.land(), lines);
        check.due("fault of '" + text + "'", x.fault(), 0);
        check.due("tape behind '" + text + "'", x.count(5), 0);
    }

    /** A text on a new object: its FAULT and the place of it. */
    private static void refused(String text, int fault, int place) {
        SnowSentries x = new SnowSentries();
        Check.write(x, text);
        check.due("land of '" + text + "'", x.land(), -10 - place);
        check.due("fault of '" + text + "'", x.fault(), fault);
        check.due("tape behind '" + text + "'", x.count(5), 0);
    }

    private static void newObject() {
        SnowSentries x = new SnowSentries();
        int[] rules = {5, 0, 1, 0, 0, 3};
        for (int what = 0; what < 6; what++) {
            check.due("new rule " + what, x.rule(what), rules[what]);
        }
        for (int h = 0; h < 12; h++) {
            check.due("new sun " + h, x.hour(h, 0), 0);
            check.due("new frost " + h, x.hour(h, 1), 0);
        }
        for (int i = 0; i < 5; i++) {
            check.due("new snow " + i, x.furlong(i, 0), 0);
            check.due("new water " + i, x.furlong(i, 1), 0);
            check.due("new line " + i, x.furlong(i, 2), 100);
            check.due("new counting " + i, x.furlong(i, 3), 0);
            check.due("new west " + i, x.man(0, i, 0), SnowSentries.NONE);
            check.due("new east " + i, x.man(1, i, 0), SnowSentries.NONE);
        }
        check.due("new furlong 5", x.furlong(5, 0), SnowSentries.BAD);
        int[] counts = {0, 0, 0, 0, 0, 0, SnowSentries.NONE};
        for (int what = 0; what < 7; what++) {
            check.due("new count " + what, x.count(what), counts[what]);
        }
        for (int k = 0; k < 4; k++) {
            check.due("new sheet " + k, x.lay(k, 0, 1), -11);
        }
        check.due("new fault", x.fault(), 0);
        check.due("new torn", x.torn(), 0);
        check.due("new all", x.all(), 0);
    }

    private static void feedAndEnd() {
        SnowSentries x = new SnowSentries();
        for (int n = 1; n <= 50; n++) {
            check.due("feed " + n, x.feed(n), 8 * n);
        }
        check.due("feed to 408", x.feed(1), SnowSentries.FULL);
        check.due("full tape", x.count(5), 400);
        check.due("end above", x.end(401), SnowSentries.BAD);
        check.due("end below 0", x.end(-1), SnowSentries.BAD);
        check.due("end at all", x.end(400), 400);
        check.due("end 393", x.end(393), 400);
        check.due("feed to 401", x.feed(1), SnowSentries.FULL);
        check.due("end 392", x.end(392), 393);
        check.due("feed to 400", x.feed(1), 400);
        check.due("end 0", x.end(0), 400);
        check.due("end 1 of 0", x.end(1), SnowSentries.BAD);
        check.due("end 0 of 0", x.end(0), 0);
        // The highest byte comes first, and a byte above 127 is one byte.
        x.feed(Check.word("sun 4;  ", 0));
        check.due("land by bytes", x.land(), 1);
        check.due("sun by bytes", x.hour(0, 0), 4);
        x.feed(Check.word("sun 4;\u00e9 ", 0));
        check.due("land by high byte", x.land(), -16);
        check.due("fault by high byte", x.fault(), 1);
    }

    private static void textsThatAreTaken() {
        taken("", 0);
        taken("   ", 0);
        taken("furlongs 10;", 1);
        taken("furlongs1;", 1);
        taken("  sun 0 9;frost9;treaty 99 3 1 ; snow 4 200;", 4);
        taken("sun 0 1 2 3 4 5 6 7 8 9 0 1;", 1);
        taken("man west 0 plain 0 0 0 0;man east 0 child 99 99 99 3 bare;", 2);
        taken("man west0plain 0 0 0 0bare;", 1);
        taken("brazier 0 20 11 11;brazier 0 1 0 0;", 2);
        taken("house 0 9 west;house 0 9 east;house 0 0 west;", 3);
        taken("snow 9 1;furlongs 10;", 2);
        taken("snow 000 007;", 1);
        SnowSentries x = Check.told("snow 000 007;house 1 3west;house 1 3 east;");
        check.due("figures ahead", x.furlong(0, 0), 7);
        check.due("west of the middle", x.house(0, 1), 97);
        check.due("east of the middle", x.house(1, 1), 103);
    }

    private static void tokenFaults() {
        refused("!", 1, 0);
        refused("  Sun 1;", 1, 2);
        refused("sun 1,2;", 1, 5);
        refused("sun -1;", 1, 4);
        refused("sun 0001;", 1, 4);
        refused("sun 1 1234", 1, 6);
        refused("1234;", 1, 0);
        refused("sun\t1;", 1, 3);
        refused("sun 1;\0", 1, 6);
        refused("sunA 1;", 1, 3);
    }

    private static void misplaced() {
        refused("moon 1;", 2, 0);
        refused("7;", 2, 0);
        refused(";", 2, 0);
        refused("sun 1;;", 2, 6);
        refused("sun", 2, 3);
        refused("sun  ", 2, 5);
        refused("sun 1", 2, 5);
        refused("sun 1  ", 2, 7);
        refused("sun ;", 2, 4);
        refused("sun 1 frost 1;", 2, 6);
        refused("furlongs 3 4;", 2, 11);
        refused("furlongs x;", 2, 9);
        refused("treaty 1 1;", 2, 10);
        refused("treaty 1 1 1 1;", 2, 13);
        refused("snow 1;", 2, 6);
        refused("man 0 0 plain 0 0 0 0;", 2, 4);
        refused("man plain 0 plain 0 0 0 0;", 2, 4);
        refused("man west west plain 0 0 0 0;", 2, 9);
        refused("man west 0 bare 0 0 0 0;", 2, 11);
        refused("man west 0 0 0 0 0 0;", 2, 11);
        refused("man west 0 plain 0 0 0;", 2, 22);
        refused("man west 0 plain 0 0 0 0 bare bare;", 2, 30);
        refused("man west 0 plain 0 0 0 0 bar;", 2, 25);
        refused("man west 0 plain 0 0 0 0 0;", 2, 25);
        refused("man west 0 plain 0 0 0 0", 2, 24);
        refused("brazier 0 1 1;", 2, 13);
        refused("brazier 0 1 1 1 1;", 2, 16);
        refused("house 0 1;", 2, 9);
        refused("house 0 1 north;", 2, 10);
        refused("house 0 west;", 2, 8);
        refused("house 0 1 west west;", 2, 15);
        refused("manwest 0 plain 0 0 0 0;", 2, 0);
        refused("su 1;", 2, 0);
        refused("suns 1;", 2, 0);
    }

    private static void outOfBounds() {
        refused("furlongs 0;", 3, 9);
        refused("furlongs 11;", 3, 9);
        refused("sun 0 10;", 3, 6);
        refused("frost 0 10;", 3, 8);
        refused("treaty 0 0 0;", 3, 7);
        refused("treaty 100 0 0;", 3, 7);
        refused("treaty 1 4 0;", 3, 9);
        refused("treaty 1 3 2;", 3, 11);
        refused("snow 10 0;", 3, 5);
        refused("snow 0 201;", 3, 7);
        refused("man west 10 plain 0 0 0 0;", 3, 9);
        refused("man west 0 plain 100 0 0 0;", 3, 17);
        refused("man west 0 plain 0 100 0 0;", 3, 19);
        refused("man west 0 plain 0 0 100 0;", 3, 21);
        refused("man west 0 plain 0 0 0 4;", 3, 23);
        refused("brazier 10 1 0 0;", 3, 8);
        refused("brazier 0 0 0 0;", 3, 10);
        refused("brazier 0 21 0 0;", 3, 10);
        refused("brazier 0 1 12 12;", 3, 12);
        refused("brazier 0 1 0 12;", 3, 14);
        refused("brazier 0 1 3 2;", 3, 14);
        refused("house 10 0 west;", 3, 6);
        refused("house 0 10 west;", 3, 8);
    }

    private static void twice() {
        refused("furlongs 2;furlongs 2;", 4, 11);
        refused("sun 1;sun 1;", 4, 6);
        refused("frost 1; frost 1;", 4, 9);
        refused("treaty 1 1 1;treaty", 4, 13);
        refused("snow 1 1;snow 1 1;", 4, 14);
        refused("snow 1 0;snow 1", 4, 14);
        refused("man east 2 iced 0 0 0 0;man east 2 tall", 4, 33);
        taken("snow 1 1;snow 2 1;man east 2 iced 0 0 0 0;man west 2 iced 0 0 0 0;", 4);
    }

    private static void tooMany() {
        refused("sun 1 1 1 1 1 1 1 1 1 1 1 1 1;", 5, 28);
        refused("frost 1 1 1 1 1 1 1 1 1 1 1 1 1;", 5, 30);
        refused("sun 1 1 1 1 1 1 1 1 1 1 1 1 x;", 2, 28);
        refused("sun 1 1 1 1 1 1 1 1 1 1 1 1", 2, 27);
        refused("sun 1 1 1 1 1 1 1 1 1 1 1 10 1;", 3, 26);
        // The 13th HOUR is that whatever its number, but it must be a TOKEN.
        refused("sun 1 1 1 1 1 1 1 1 1 1 1 1 10;", 5, 28);
        refused("frost 1 1 1 1 1 1 1 1 1 1 1 1 999", 5, 30);
        refused("frost 1 1 1 1 1 1 1 1 1 1 1 1 1234;", 1, 30);
        refused("sun 1 1 1 1 1 1 1 1 1 1  5 6 72;", 5, 29);
        String fires = "brazier 0 1 0 0;".repeat(6);
        taken(fires, 6);
        refused(fires + "brazier", 5, 96);
        String eight = "house 0 0 east;".repeat(8);
        taken(eight, 8);
        refused(eight + "house 0 0 east;", 5, 120);
    }

    private static void noFurlong() {
        refused("snow 5 1;", 6, 9);
        refused("snow 5 1;   ", 6, 12);
        refused("man west 5 plain 0 0 0 0;", 6, 25);
        refused("brazier 5 1 0 0;", 6, 16);
        refused("house 5 0 east;", 6, 15);
        refused("snow 4 1;furlongs 4;", 6, 20);
        taken("snow 4 1;", 1);
        taken("snow 5 1;furlongs 6;", 2);
    }

    private static void firstFaultMet() {
        refused("sun 10!", 3, 4);
        refused("snow 5 1;!", 1, 9);
        refused("sun 1;sun!", 4, 6);
        refused("moon!", 2, 0);
        refused("snow 7 300;", 3, 7);
    }

    private static void whatAFaultLeaves() {
        SnowSentries x = Check.told("furlongs 3;sun 5;snow 1 30;man west 1 plain 1 2 30 1;house 1 0 west;");
        x.go(1);
        x.keep(0);
        x.felt(4);
        x.chance(7);
        String faulty = "furlongs 9;sun 1;snow 2 9;man west 0 plain 1 1 1 1;brazier 0 1 0 0;house 0 1 east;treaty 2 2 1;frost 9;";
        Check.write(x, faulty + "x");
        check.due("faulty land", x.land(), -10 - faulty.length());
        check.due("its fault", x.fault(), 2);
        check.due("furlongs stay", x.rule(0), 3);
        check.due("hour stays", x.rule(1), 1);
        check.due("treaty stays", x.rule(2), 1);
        check.due("chance stays", x.rule(5), 7);
        check.due("sun stays", x.hour(0, 0), 5);
        check.due("frost stays", x.hour(0, 1), 0);
        check.due("snow stays", x.furlong(1, 0), 25);
        check.due("water stays", x.furlong(1, 1), 10);
        check.due("line stays", x.furlong(1, 2), 101);
        check.due("men stay", x.count(0), 1);
        check.due("braziers stay", x.count(1), 0);
        check.due("houses stay", x.count(2), 1);
        check.due("felt stays", x.count(3), 1);
        check.due("images stay", x.count(4), 1);
        check.due("tape is empty", x.count(5), 0);
        check.due("back", x.back(0), 1);
        check.due("land of nothing", x.land(), 0);
        check.due("fault of nothing", x.fault(), 0);
    }

    private static void whatATextReplaces() {
        SnowSentries x = Check.told("furlongs 3;sun 5;frost 1;treaty 2 1 1;snow 1 30;man west 1 plain 1 2 30 1;brazier 0 1 0 0;house 1 0 west;");
        x.sheet(0, 0, 3);
        x.read(0, 0, 0, 4);
        x.go(1);
        x.keep(0);
        x.keep(1);
        x.felt(4);
        x.chance(7);
        check.due("nothing tells a land", x.land(), 0);
        check.due("torn stays", x.torn(), 2);
        int[] rules = {5, 0, 1, 0, 0, 3};
        for (int what = 0; what < 6; what++) {
            check.due("rule " + what, x.rule(what), rules[what]);
        }
        check.due("sun", x.hour(0, 0), 0);
        check.due("frost", x.hour(0, 1), 0);
        check.due("snow", x.furlong(1, 0), 0);
        check.due("water", x.furlong(1, 1), 0);
        check.due("line", x.furlong(1, 2), 100);
        int[] counts = {0, 0, 0, 0, 0, 0, 3};
        for (int what = 0; what < 7; what++) {
            check.due("count " + what, x.count(what), counts[what]);
        }
        check.due("all", x.all(), 0);
        check.due("image 0 is gone", x.back(0), SnowSentries.STATE);
        check.due("image 1 is gone", x.back(1), SnowSentries.STATE);
        nothingComesBack();
    }

    /** Of what earlier texts told nothing is left, however many there were. */
    private static void nothingComesBack() {
        SnowSentries x = new SnowSentries();
        for (int n = 0; n < 6; n++) {
            boolean full = n % 3 == 0;
            Check.write(x, full ? "furlongs 7;sun 5;frost 6;treaty 2 3 1;snow 1 30;man west 1 plain 1 2 30 1;brazier 0 1 0 0;house 1 0 west;" : "");
            check.due("lines " + n, x.land(), full ? 8 : 0);
            int[] rules = {full ? 7 : 5, 0, full ? 2 : 1, full ? 3 : 0, full ? 1 : 0, 3};
            for (int what = 0; what < 6; what++) {
                check.due("rule " + what + " of text " + n, x.rule(what), rules[what]);
            }
            check.due("sun of text " + n, x.hour(0, 0), full ? 5 : 0);
            check.due("frost of text " + n, x.hour(0, 1), full ? 6 : 0);
            check.due("all of text " + n, x.all(), full ? 63 : 0);
            for (int what = 0; what < 3; what++) {
                check.due("count " + what + " of text " + n, x.count(what), full ? 1 : 0);
            }
            x.go(3);
            x.chance(1);
            x.shine(7, 7);
            x.light(0, 3, 0, 0);
        }
    }
}
