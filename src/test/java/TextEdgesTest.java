import java.util.List;

/** Promises 1 to 5 with section 1: each sentence that names an edge of THE TAPE, of TOKENS, of lines, of FAULTS 1 to 6. */
public final class TextEdgesTest {
    private static final int BAD = SnowSentries.BAD, FULL = SnowSentries.FULL, NONE = SnowSentries.NONE, STATE = SnowSentries.STATE;
    private static final Check check = new Check("TextEdgesTest");

    /** A line of each kind, each TOKEN of it by itself. */
    private static final List<String> LINES = List.of("furlongs 7 ;", "sun 1 2 3 ;", "frost 1 2 ;", "treaty 2 1 0 ;", "snow 1 20 ;",
        "man west 2 plain 3 4 5 1 ;", "man east 2 child 3 4 5 1 bare ;", "brazier 1 20 3 4 ;", "house 1 5 west ;");
    /** What is no TOKEN, or a TOKEN that stands nowhere in a line: each with its FAULT. */
    private static final List<String> WRONG = List.of("! 1", "A 1", "1234 1", "nobody 2");

    public static void main(String[] args) {
        aNewObject();
        aTapeOf400();
        eightBytesTheHighestFirst();
        endKeepsTheFirst();
        theTapeIsEmptyThen();
        howManyLines();
        blanks();
        tokensAsLongAsMayBe();
        everyOtherByte();
        oneToThreeFigures();
        eachNumberOfEachLine();
        eachTokenOfEachLine();
        theFirstOfTwoFaults();
        aLineThatEndsTooSoon();
        aTokenTooMany();
        namesThatAreNone();
        forTheSecondTime();
        theThirteenthHour();
        theSeventhTheNinth();
        aFurlongThatThereIsNot();
        whatNoLineTells();
        whatWasToldLongAgo();
        theFaultOfTheLatest();
        check.finish();
    }

    private static SnowSentries fed(String text) {
        SnowSentries x = new SnowSentries();
        Check.write(x, text);
        check.due("bytes of '" + text + "'", x.count(5), text.length());
        return x;
    }

    private static void taken(String text, int lines) {
        SnowSentries x = fed(text);
        check.due("land of '" + text + "'", x.land(), lines);
        check.due("fault of '" + text + "'", x.fault(), 0);
        check.due("tape behind '" + text + "'", x.count(5), 0);
    }

    private static void refused(String text, int fault, int place) {
        SnowSentries x = fed(text);
        check.due("land of '" + text + "'", x.land(), -10 - place);
        check.due("fault of '" + text + "'", x.fault(), fault);
        check.due("tape behind '" + text + "'", x.count(5), 0);
        check.due("land of nothing behind '" + text + "'", x.land(), 0);
        check.due("fault of nothing behind '" + text + "'", x.fault(), 0);
    }

    /** "Five FURLONGS, nobody there; SHEETS have nothing." */
    private static void aNewObject() {
        SnowSentries x = new SnowSentries();
        check.due("furlongs", x.rule(0), 5);
        check.due("the fifth", x.furlong(4, 0), 0);
        check.due("the sixth", x.furlong(5, 0), BAD);
        check.due("men", x.count(0), 0);
        for (int i = 0; i < 5; i++) {
            check.due("west " + i, x.man(0, i, 0), NONE);
            check.due("east " + i, x.man(1, i, 0), NONE);
        }
        for (int k = 0; k < 4; k++) {
            check.due("lay on sheet " + k, x.lay(k, 0, 1), -11);
            check.due("read of sheet " + k, x.read(k, 0, 0, 1), 0);
            check.due("torn of sheet " + k, x.torn(), 1);
        }
        SnowSentries y = new SnowSentries();
        check.due("no FAULT yet", y.fault(), 0);
        check.due("not torn yet", y.torn(), 0);
        check.due("no image", y.back(0), STATE);
        check.due("no image", y.back(1), STATE);
        check.due("no brazier", y.brazier(0, 0), BAD);
        check.due("no house", y.house(0, 0), BAD);
        check.due("nothing felt", y.spy(0), STATE);
        check.due("an empty tape", y.end(0), 0);
    }

    /** "THE TAPE has 400 bytes"; "FULL: more than 400". */
    private static void aTapeOf400() {
        SnowSentries x = new SnowSentries();
        for (int n = 1; n <= 50; n++) {
            check.due("feed " + n, x.feed(-1L), 8 * n);
        }
        check.due("feed 51", x.feed(-1L), FULL);
        check.due("still 400", x.count(5), 400);
        for (int length = 393; length <= 399; length++) {
            x.end(length);
            check.due("eight behind " + length, x.feed(0), FULL);
            check.due("still " + length, x.count(5), length);
            x.end(0);
            for (int n = 1; n <= 50; n++) {
                x.feed(0);
            }
        }
        x.end(392);
        check.due("eight behind 392", x.feed(0), 400);
        // Places up to the length, which is 400 here.
        String longest = "sun 1;" + " ".repeat(394);
        taken(longest, 1);
        refused(" ".repeat(399) + "!", 1, 399);
        refused(" ".repeat(397) + "sun", 2, 400);
        refused("snow 5 1;" + " ".repeat(391), 6, 400);
        refused(" ".repeat(399) + ";", 2, 399);
        taken("sun 1;" + " ".repeat(386) + "frost 1;", 2);
        refused("sun 1;" + " ".repeat(384) + "frost 1234", 1, 396);
        taken(" ".repeat(400), 0);
    }

    /** "Eight bytes come behind THE TAPE, the highest first: how many it has." */
    private static void eightBytesTheHighestFirst() {
        SnowSentries x = new SnowSentries();
        check.due("feed", x.feed(0x73756e20393b2020L), 8);
        check.due("land", x.land(), 1);
        check.due("sun", x.hour(0, 0), 9);
        // A long below 0: the highest byte is above 127, which is no TOKEN.
        x.feed(0xf3756e20393b2020L);
        check.due("land", x.land(), -10);
        check.due("fault", x.fault(), 1);
        x.feed(0x73756e20393b20a0L);
        check.due("land", x.land(), -17);
        check.due("fault", x.fault(), 1);
        // They come behind what is there, at any length.
        x.feed(Check.word("sun 1 2 ", 0));
        check.due("end", x.end(5), 8);
        check.due("feed behind 5", x.feed(Check.word(" 3 4;   ", 0)), 13);
        check.due("land", x.land(), 1);
        check.due("hour 0", x.hour(0, 0), 1);
        check.due("hour 1", x.hour(1, 0), 3);
        check.due("hour 2", x.hour(2, 0), 4);
    }

    /** "THE TAPE keeps its first n bytes: how many it had. BAD (n above that, too)." */
    private static void endKeepsTheFirst() {
        SnowSentries x = new SnowSentries();
        x.feed(Check.word("sun 1 2;", 0));
        check.due("above", x.end(9), BAD);
        check.due("below", x.end(-1), BAD);
        check.due("all", x.end(8), 8);
        check.due("all but one", x.end(7), 8);
        check.due("above what it has now", x.end(8), BAD);
        check.due("how many it had", x.end(0), 7);
        check.due("none", x.end(0), 0);
        check.due("above none", x.end(1), BAD);
        // What was cut off does not come back.
        x.feed(Check.word("sun 1;xx", 0));
        x.end(6);
        check.due("land", x.land(), 1);
    }

    /** "THE TAPE (empty then, by a FAULT, too) tells the land". */
    private static void theTapeIsEmptyThen() {
        SnowSentries x = fed("sun 1;");
        x.land();
        check.due("taken", x.count(5), 0);
        Check.write(x, "sun 1");
        x.land();
        check.due("refused", x.count(5), 0);
        Check.write(x, "snow 9 1;");
        x.land();
        check.due("refused behind all", x.count(5), 0);
        check.due("nothing tells a land", x.land(), 0);
    }

    private static void howManyLines() {
        taken("", 0);
        taken("sun 1;", 1);
        taken("sun 1;frost 1;", 2);
        StringBuilder text = new StringBuilder("furlongs 10;sun 0;frost 0;treaty 1 0 0;");
        for (int i = 0; i < 10; i++) {
            text.append("snow ").append(i).append(" 1;");
        }
        text.append("house 0 1 west;".repeat(8)).append("brazier 0 1 0 0;".repeat(6));
        taken(text.toString(), 4 + 10 + 8 + 6);
        // The same without a blank that is not needed.
        StringBuilder more = new StringBuilder("furlongs10;");
        for (int i = 0; i < 10; i++) {
            more.append("snow").append(i).append(" 0;");
        }
        more.append("house0 0west;".repeat(8)).append("brazier0 1 0 0;".repeat(6)).append("sun0;frost0;treaty1 0 0;");
        taken(more.toString(), 1 + 10 + 8 + 6 + 3);
    }

    /** "any number of blanks (32) ahead of, between, behind them (one at least between two NAMES, between two NUMBERS; else none is needed)". */
    private static void blanks() {
        for (String line : LINES) {
            taken(line.replace(" ", "   "), 1);
            taken("     " + line + "     ", 1);
            taken(line.replaceAll("([a-z]) ([0-9;])", "$1$2").replaceAll("([0-9]) ([a-z;])", "$1$2"), 1);
        }
        taken("sun1 2;frost3;snow1 2;man west0plain1 1 1 1bare;house0 1west;", 5);
        taken("furlongs1;sun1;", 2);
        refused("manwest 0 plain 1 1 1 1;", 2, 0);
        refused("man west 0 plain 1 1 1 1 barebare;", 2, 25);
        // Without a blank two NUMBERS are one: what is missing is met at the sign behind.
        refused("snow 12;", 3, 5);
        refused("snow 1;", 2, 6);
        refused("treaty 1 00;", 2, 11);
        refused("sun 12;", 3, 4);
        // No other byte is a blank.
        for (int other : new int[] {0, 9, 10, 11, 12, 13, 31, 33, 127, 128, 160, 255}) {
            refused("sun" + (char) other + "1;", 1, 3);
            refused("sun 1;" + (char) other, 1, 6);
            refused((char) other + "sun 1;", 1, 0);
        }
    }

    /** "TOKENS, each as long as may be". */
    private static void tokensAsLongAsMayBe() {
        refused("sunsun 1;", 2, 0);
        refused("suns;", 2, 0);
        refused("su", 2, 0);
        refused("s", 2, 0);
        refused("z".repeat(400), 2, 0);
        refused("sun " + "z".repeat(396), 2, 4);
        refused("sun " + "1".repeat(396), 1, 4);
        refused("man west 0 plain 1 1 1 1 bareness;", 2, 25);
        refused("man westward 0 plain 1 1 1 1;", 2, 4);
        refused("man west 0 icedx 1 1 1 1;", 2, 11);
        refused("furlong 1;", 2, 0);
        refused("furlongss 1;", 2, 0);
        refused("house 0 1 eas;", 2, 10);
        // A NAME ends where a figure begins, and the other way round.
        refused("sun1x;", 2, 4);
        refused("1sun;", 2, 0);
        refused("sun 1sun;", 2, 5);
    }

    /** "every other byte is no TOKEN". */
    private static void everyOtherByte() {
        for (int b = 0; b < 256; b++) {
            boolean name = b >= 'a' && b <= 'z';
            boolean figure = b >= '0' && b <= '9';
            boolean token = name || figure || b == ';';
            String sign = String.valueOf((char) b);
            if (b == 32) {
                taken(sign, 0);
                taken("sun 1" + sign + ";", 1);
            } else {
                refused(sign, token ? 2 : 1, 0);
                if (b == ';') {
                    taken("sun 1" + sign, 1);
                } else if (figure) {
                    refused("sun 1" + sign + ";", 3, 4);
                } else {
                    refused("sun 1" + sign + ";", name ? 2 : 1, 5);
                }
            }
        }
    }

    /** "NUMBERS (1 to 3 figures)"; "a NUMBER that is too long (its first byte)". */
    private static void oneToThreeFigures() {
        taken("sun 1;", 1);
        taken("sun 01;", 1);
        taken("sun 001;", 1);
        refused("sun 0001;", 1, 4);
        refused("sun 1 1 0001;", 1, 8);
        taken("snow 0 200;", 1);
        refused("snow 0 0200;", 1, 7);
        refused("snow 0 999;", 3, 7);
        refused("snow 0 1000;", 1, 7);
        refused("snow 0 9999", 1, 7);
        // Too long wherever it stands, also where no NUMBER can stand.
        refused("0000", 1, 0);
        refused("sun 1;1234", 1, 6);
        refused("man 1234", 1, 4);
        refused("man west 0 1234", 1, 11);
        refused("man west 0 plain 1 1 1 1 1234", 1, 25);
        refused("house 0 1 1234", 1, 10);
        refused("furlongs 1 1234", 1, 11);
        refused("brazier 0 1 4294967296 1;", 1, 12);
        refused("snow 0 4294967297;", 1, 7);
    }

    /** The bounds of one NUMBER: what stands ahead of it and behind it, its least and its most. */
    private static void bounds(String ahead, String behind, int least, int most) {
        for (int v : new int[] {least, least + 1, (least + most) / 2, most - 1, most}) {
            if (v >= least && v <= most) {
                taken("furlongs 10;" + ahead + v + behind, 2);
            }
        }
        for (int v : new int[] {least - 1, most + 1, most + 100, 255 + least + 1, 256 + most, 999}) {
            if (v >= 0 && v < 1000 && (v < least || v > most)) {
                refused("furlongs 10;" + ahead + v + behind, 3, 12 + ahead.length());
            }
        }
    }

    /** "3 a NUMBER out of its bounds." */
    private static void eachNumberOfEachLine() {
        for (int v = 0; v <= 12; v++) {
            if (v >= 1 && v <= 10) {
                taken("furlongs " + v + ";", 1);
                check.due("furlongs", Check.told("furlongs " + v + ";").rule(0), v);
            } else {
                refused("furlongs " + v + ";", 3, 9);
            }
        }
        for (String row : new String[] {"sun ", "frost "}) {
            bounds(row, ";", 0, 9);
            bounds(row + "9 ", " 9;", 0, 9);
            bounds(row + "0 1 2 3 4 5 6 7 8 9 0 ", ";", 0, 9);
        }
        bounds("treaty ", " 0 0;", 1, 99);
        bounds("treaty 1 ", " 0;", 0, 3);
        bounds("treaty 1 0 ", ";", 0, 1);
        bounds("snow ", " 1;", 0, 9);
        bounds("snow 9 ", ";", 0, 200);
        for (String side : new String[] {"west ", "east "}) {
            bounds("man " + side, " plain 0 0 0 0;", 0, 9);
            bounds("man " + side + "9 iced ", " 0 0 0;", 0, 99);
            bounds("man " + side + "9 shaded 0 ", " 0 0;", 0, 99);
            bounds("man " + side + "9 packed 0 0 ", " 0;", 0, 99);
            bounds("man " + side + "9 child 0 0 0 ", ";", 0, 3);
            bounds("man " + side + "9 child 0 0 0 ", " bare;", 0, 3);
        }
        bounds("brazier ", " 1 0 0;", 0, 9);
        bounds("brazier 9 ", " 0 0;", 1, 20);
        bounds("brazier 9 1 ", " 11;", 0, 11);
        for (int from = 0; from < 12; from++) {
            bounds("brazier 9 1 " + from + " ", ";", from, 11);
        }
        bounds("house ", " 1 west;", 0, 9);
        bounds("house 9 ", " west;", 0, 9);
        bounds("house 9 ", " east;", 0, 9);
        edgesAreKept();
    }

    private static void edgesAreKept() {
        SnowSentries x = Check.told("furlongs 10;sun 0 0 0 0 0 0 0 0 0 0 0 9;frost 9 0 0 0 0 0 0 0 0 0 0 9;treaty 99 3 1;snow 9 200;"
            + "man west 9 child 99 99 99 3;man east 9 packed 0 0 0 0 bare;brazier 9 20 11 11;house 9 9 west;house 9 9 east;house 9 0 west;house 9 0 east;");
        check.due("sun 11", x.hour(11, 0), 9);
        check.due("frost 0", x.hour(0, 1), 9);
        check.due("frost 11", x.hour(11, 1), 9);
        check.due("treaty", x.rule(2), 99);
        check.due("treaty", x.rule(3), 3);
        check.due("treaty", x.rule(4), 1);
        check.due("snow", x.furlong(9, 0), 200);
        int[] west = {4, 99, 99, 99, 3, 1};
        int[] east = {3, 0, 0, 0, 0, 0};
        for (int what = 0; what < 6; what++) {
            check.due("west " + what, x.man(0, 9, what), west[what]);
            check.due("east " + what, x.man(1, 9, what), east[what]);
        }
        int[] fire = {9, 20, 11, 11};
        for (int what = 0; what < 4; what++) {
            check.due("brazier " + what, x.brazier(0, what), fire[what]);
        }
        int[] places = {91, 109, 100, 100};
        for (int h = 0; h < 4; h++) {
            check.due("house on", x.house(h, 0), 9);
            check.due("house at", x.house(h, 1), places[h]);
        }
        check.due("all", x.all(), 200 + 297);
    }

    /** FAULTS 1 and 2 in place of each TOKEN of each line. */
    private static void eachTokenOfEachLine() {
        for (String line : LINES) {
            String[] tokens = line.split(" ");
            for (int k = 0; k < tokens.length; k++) {
                for (String wrong : WRONG) {
                    String[] parts = wrong.split(" ");
                    int place = String.join(" ", List.of(tokens).subList(0, k)).length() + (k == 0 ? 0 : 1);
                    String[] put = tokens.clone();
                    put[k] = parts[0];
                    refused(String.join(" ", put), Integer.parseInt(parts[1]), place);
                }
            }
        }
    }

    /** "FAULTS, the first met as it is read": with any other FAULT at any TOKEN behind it. */
    private static void theFirstOfTwoFaults() {
        for (String line : LINES) {
            String[] tokens = line.split(" ");
            for (int k = 0; k < tokens.length; k++) {
                int place = String.join(" ", List.of(tokens).subList(0, k)).length() + (k == 0 ? 0 : 1);
                for (int later = k + 1; later < tokens.length; later++) {
                    twoFaults(tokens, k, later, place);
                }
            }
        }
    }

    private static void twoFaults(String[] tokens, int k, int later, int place) {
        for (String first : WRONG) {
            for (String other : WRONG) {
                String[] put = tokens.clone();
                put[k] = first.split(" ")[0];
                put[later] = other.split(" ")[0];
                refused(String.join(" ", put), Integer.parseInt(first.split(" ")[1]), place);
            }
        }
        boolean number = Character.isDigit(tokens[k].charAt(0));
        if (number) {
            for (String other : List.of("!", "1234", "nobody", "999", ";")) {
                String[] put = tokens.clone();
                put[k] = "999";
                put[later] = other;
                refused(String.join(" ", put), 3, place);
            }
        }
    }

    /** "or the end: the length". */
    private static void aLineThatEndsTooSoon() {
        for (String line : LINES) {
            String[] tokens = line.split(" ");
            for (int k = 1; k < tokens.length; k++) {
                String text = String.join(" ", List.of(tokens).subList(0, k));
                refused(text, 2, text.length());
                refused(text + "   ", 2, text.length() + 3);
                // The sign ; too soon is met where it stands; sun and frost may end behind each of their NUMBERS.
                boolean hours = tokens[0].equals("sun") || tokens[0].equals("frost");
                boolean beforeBare = tokens[k].equals("bare");
                boolean whole = k == tokens.length - 1 || hours && k > 1 || beforeBare;
                if (whole) {
                    taken(text + ";", 1);
                } else {
                    refused(text + ";", 2, text.length());
                }
            }
        }
    }

    private static void aTokenTooMany() {
        for (String line : LINES) {
            String[] tokens = line.split(" ");
            String text = String.join(" ", List.of(tokens).subList(0, tokens.length - 1));
            boolean hours = tokens[0].equals("sun") || tokens[0].equals("frost");
            if (!hours) {
                refused(text + " 1;", 2, text.length() + 1);
            }
            refused(text + " west;", 2, text.length() + 1);
            refused(text + ";;", 2, text.length() + 1);
            refused(text + "; 1", 2, text.length() + 2);
            refused(text + " sun 1;", 2, text.length() + 1);
        }
    }

    /** "a NAME that begins no line, is no S, K, bare". */
    private static void namesThatAreNone() {
        for (String name : List.of("west", "east", "plain", "iced", "shaded", "packed", "child", "bare", "line", "land")) {
            refused(name + " 1;", 2, 0);
        }
        for (String name : List.of("plain", "bare", "sun", "man", "north")) {
            refused("man " + name + " 0 plain 0 0 0 0;", 2, 4);
            refused("house 0 0 " + name + ";", 2, 10);
        }
        for (String name : List.of("west", "bare", "sun", "tall")) {
            refused("man west 0 " + name + " 0 0 0 0;", 2, 11);
        }
        for (String name : List.of("west", "plain", "sun", "bar")) {
            refused("man west 0 plain 0 0 0 0 " + name + ";", 2, 25);
        }
        // Each NAME with each of its letters changed, the first and the last too.
        for (String line : LINES) {
            for (int k = 0; k < line.length(); k++) {
                char sign = line.charAt(k);
                if (sign >= 'a' && sign <= 'z') {
                    String changed = line.substring(0, k) + (sign == 'z' ? 'a' : (char) (sign + 1)) + line.substring(k + 1);
                    refused(changed, 2, line.lastIndexOf(' ', k) + 1);
                }
            }
        }
        for (String kind : List.of("plain", "iced", "shaded", "packed", "child")) {
            check.due(kind, Check.told("man east 3 " + kind + " 0 0 0 0;").man(1, 3, 0), List.of("plain", "iced", "shaded", "packed", "child").indexOf(kind));
        }
    }

    /** "4 furlongs, sun, frost, treaty for the second time (its NAME), snow of a FURLONG, a man of a SIDE on a FURLONG for the second time (the FURLONG)." */
    private static void forTheSecondTime() {
        for (String line : List.of("furlongs 7;", "sun 0;", "frost 0;", "treaty 1 0 0;")) {
            String name = line.replaceAll("[ 0-9;]", "");
            refused(line + line, 4, line.length());
            // The NAME is enough: what would be wrong behind it is not read.
            refused(line + name, 4, line.length());
            refused(line + name + "!", 4, line.length());
            refused(line + name + " 999;", 4, line.length());
            refused(line + name + " " + name, 4, line.length());
            refused(line + "snow 1 1;  " + name, 4, line.length() + 11);
            // A first time that is refused is no first time for the next text.
            SnowSentries x = fed(line + "!");
            x.land();
            Check.write(x, line);
            check.due(line + " in the next text", x.land(), 1);
            Check.write(x, line);
            check.due(line + " in the next text again", x.land(), 1);
        }
        for (int i = 0; i < 10; i++) {
            String first = "furlongs 10;snow " + i + " 0;";
            refused(first + "snow " + i + " 1;", 4, first.length() + 5);
            refused(first + "snow " + i, 4, first.length() + 5);
            refused(first + "snow " + i + "!", 4, first.length() + 5);
            taken(first + "snow " + (i + 1) % 10 + " 1;", 3);
            String man = "furlongs 10;man west " + i + " plain 0 0 0 0;";
            refused(man + "man west " + i + " tall", 4, man.length() + 9);
            refused(man + "man west " + i + "!", 4, man.length() + 9);
            taken(man + "man east " + i + " plain 0 0 0 0;man west " + (i + 1) % 10 + " plain 0 0 0 0;snow " + i + " 1;", 5);
            String east = "furlongs 10;man east " + i + " plain 0 0 0 0 bare;";
            refused(east + "man east " + i + " child 0 0 0 0;", 4, east.length() + 9);
        }
        // Ahead of FAULT 6, which is met behind all; behind FAULT 3 of the same NUMBER.
        refused("snow 7 1;snow 7 1;", 4, 14);
        refused("snow 1 1;snow 10 1;", 3, 14);
        taken("snow 1 1;snow 002 1;", 2);
        refused("snow 1 1;snow 001 1;", 4, 14);
    }

    /** "5 the 13th HOUR (it)". */
    private static void theThirteenthHour() {
        for (String name : List.of("sun", "frost")) {
            String twelve = name + " 1 2 3 4 5 6 7 8 9 0 1 2";
            taken(twelve + ";", 1);
            refused(twelve, 2, twelve.length());
            for (String number : List.of("0", "9", "10", "99", "999", "000")) {
                refused(twelve + " " + number + ";", 5, twelve.length() + 1);
                refused(twelve + " " + number, 5, twelve.length() + 1);
                refused(twelve + " " + number + "!", 5, twelve.length() + 1);
                refused(twelve + "   " + number + " 1 1", 5, twelve.length() + 3);
            }
            refused(twelve + " 0000;", 1, twelve.length() + 1);
            refused(twelve + " west;", 2, twelve.length() + 1);
            refused(twelve + "!", 1, twelve.length());
            String eleven = name + " 1 2 3 4 5 6 7 8 9 0 1";
            refused(eleven + " 10;", 3, eleven.length() + 1);
            refused(eleven + " 10 1;", 3, eleven.length() + 1);
        }
        SnowSentries x = Check.told("sun 1 2 3 4 5 6 7 8 9 0 1 2;frost 2 1 0 9 8 7 6 5 4 3 2 1;");
        int[] sun = {1, 2, 3, 4, 5, 6, 7, 8, 9, 0, 1, 2};
        int[] frost = {2, 1, 0, 9, 8, 7, 6, 5, 4, 3, 2, 1};
        for (int h = 0; h < 12; h++) {
            check.due("sun " + h, x.hour(h, 0), sun[h]);
            check.due("frost " + h, x.hour(h, 1), frost[h]);
        }
    }

    /** "5 .. the 7th brazier, the 9th house (its NAME)." */
    private static void theSeventhTheNinth() {
        String fires = "brazier 0 1 0 0;".repeat(6);
        taken(fires, 6);
        for (String behind : List.of("brazier", "brazier;", "brazier!", "brazier 99 0 0 0;", "brazier 0 1 0 0;", "brazier 9 1 0 0;")) {
            refused(fires + behind, 5, fires.length());
            refused(fires + "sun 1; " + behind, 5, fires.length() + 7);
        }
        String homes = "house 0 1 west;".repeat(8);
        taken(homes, 8);
        for (String behind : List.of("house", "house;", "house!", "house 99 0 west;", "house 0 0 east;", "house 9 0 east;")) {
            refused(homes + behind, 5, homes.length());
            refused(homes + fires + behind, 5, homes.length() + fires.length());
        }
        // Both are counted anew by each text.
        SnowSentries x = Check.told(fires + homes);
        Check.write(x, fires + homes);
        check.due("once more", x.land(), 14);
    }

    /** "Behind all (the length): 6 a FURLONG that there is not." */
    private static void aFurlongThatThereIsNot() {
        for (int furlongs = 1; furlongs <= 10; furlongs++) {
            for (int i = 0; i < 10; i++) {
                for (String line : List.of("snow " + i + " 0;", "man west " + i + " plain 0 0 0 0;", "brazier " + i + " 1 0 0;", "house " + i + " 0 west;")) {
                    String ahead = line + "furlongs " + furlongs + ";";
                    String behind = "furlongs " + furlongs + ";" + line;
                    if (i < furlongs) {
                        taken(ahead, 2);
                        taken(behind, 2);
                    } else {
                        refused(ahead, 6, ahead.length());
                        refused(behind, 6, behind.length());
                    }
                }
            }
        }
        // Five, if no line tells.
        taken("snow 4 1;", 1);
        refused("snow 5 1;", 6, 9);
        refused("snow 5 1;  ", 6, 11);
        refused("snow 5 1;snow 1 1;", 6, 18);
        // The FURLONGS that there were do not matter.
        SnowSentries x = Check.told("furlongs 10;snow 9 1;");
        Check.write(x, "snow 5 1;");
        check.due("five again", x.land(), -19);
        check.due("its fault", x.fault(), 6);
        check.due("ten stay", x.rule(0), 10);
        // Every other FAULT is met ahead of it, and one text leaves nothing of it to the next.
        refused("snow 9 1;!", 1, 9);
        refused("snow 9 1;x", 2, 9);
        refused("snow 9 1;sun 10;", 3, 13);
        refused("snow 9 1;sun 1;sun", 4, 15);
        refused("snow 9 1;sun 1", 2, 14);
        SnowSentries y = fed("snow 9 1;");
        y.land();
        Check.write(y, "snow 4 1;");
        check.due("the next text", y.land(), 1);
    }

    /** "A text that is taken tells all, in place of what there was (what no line tells is as at first)". */
    private static void whatNoLineTells() {
        String all = "furlongs 7;sun 5 4;frost 6 1;treaty 2 3 1;snow 1 30;man west 1 iced 9 9 30 3;man east 6 child 9 9 30 3 bare;brazier 6 20 0 11;house 1 3 west;";
        SnowSentries x = Check.told(all);
        change(x);
        check.due("an empty text", x.land(), 0);
        sameAs("an empty text", x, new SnowSentries());
        for (String line : all.split(";")) {
            if (line.matches("man east.*|brazier.*")) {
                line = "furlongs 7;" + line;
            }
            SnowSentries y = Check.told(all);
            change(y);
            Check.write(y, line + ";");
            check.due("lines", y.land() > 0 ? 1 : 0, 1);
            sameAs(line, y, Check.told(line + ";"));
        }
        SnowSentries z = Check.told(all);
        z.sheet(1, 1, 2);
        z.lay(1, 1, 7);
        z.read(1, 1, 1, 2);
        z.land();
        check.due("SHEETS stay", z.read(1, 1, 0, 2), 2);
        check.due("SHEETS stay", z.hour(1, 0), 7);
    }

    /** Of all MEN, SNOW, WATER, LINES of earlier texts nothing comes back, neither with the next text nor with the one behind it. */
    private static void whatWasToldLongAgo() {
        String east = "furlongs 10;treaty 1 1 1;sun 1;";
        String west = "furlongs 10;frost 1;";
        for (int i = 0; i < 10; i++) {
            east += "man east " + i + " child 1 2 3 3 bare;";
            west += "man west " + i + " iced 9 8 7 1;";
        }
        String[] texts = {east, "furlongs 10;", west, "furlongs 10;man east 9 plain 5 5 5 0;man west 0 plain 6 6 6 0;", "furlongs 10;"};
        SnowSentries x = new SnowSentries();
        for (int n = 0; n < 2; n++) {
            for (String text : texts) {
                Check.write(x, text);
                check.due("lines of '" + text + "'", x.land() > 0 ? 1 : 0, 1);
                SnowSentries other = Check.told(text);
                for (int i = 0; i < 10; i++) {
                    int what = i % 6;
                    check.due("west on " + i, x.man(0, i, what), other.man(0, i, what));
                    check.due("east on " + i, x.man(1, i, what), other.man(1, i, what));
                }
                check.due("all", x.all(), other.all());
                check.due("kind of west", x.man(0, 0, 0), other.man(0, 0, 0));
                check.due("kind of east", x.man(1, 9, 0), other.man(1, 9, 0));
                check.due("uniform of east", x.man(1, 9, 5), other.man(1, 9, 5));
                x.go(2);
            }
        }
    }

    private static void change(SnowSentries x) {
        x.go(3);
        x.keep(0);
        x.keep(1);
        x.felt(8);
        x.chance(9);
        x.shine(11, 9);
        x.light(0, 1, 0, 0);
        x.carry(1, 0, 1);
    }

    private static void sameAs(String name, SnowSentries x, SnowSentries other) {
        check.dueText("all behind " + name, Whole.of(x, 60), Whole.of(other, 60));
    }

    /** "The FAULT of the latest land(); 0." */
    private static void theFaultOfTheLatest() {
        SnowSentries x = new SnowSentries();
        String[] texts = {"!", "x", "sun 10;", "sun 1;sun", "house 0 0 west;".repeat(9), "snow 9 1;"};
        for (int fault = 1; fault <= 6; fault++) {
            Check.write(x, texts[fault - 1]);
            check.due("not yet " + fault, x.fault(), fault - 1);
            x.land();
            check.due("fault " + fault, x.fault(), fault);
            check.due("asked again " + fault, x.fault(), fault);
        }
        x.feed(0);
        x.end(0);
        x.go(1);
        check.due("it stays", x.fault(), 6);
        x.land();
        check.due("none any more", x.fault(), 0);
    }
}
