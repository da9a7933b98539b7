import java.lang.reflect.Method;
import java.util.ArrayList;
import java.util.Arrays;
import java.util.Comparator;
import java.util.List;
import java.util.Random;

/** All promises: runs of calls by chance (the same ones each time), each answer beside that of the slow Model. */
public final class ModelTest {
    /** A text and what is felt may come on top: 512 calls are the most that an object is made for. */
    private static final int CALLS = 430;
    private static final List<String> DEAR = List.of("lead", "odds", "crews", "need", "gap", "holds", "spies");
    private static final String[] NAMES = {"furlongs", "sun", "frost", "treaty", "snow", "man", "brazier", "house", "west", "east",
        "plain", "iced", "shaded", "packed", "child", "bare", "x"};
    private static int wrong = 0;
    private static int[] landed = new int[8];

    public static void main(String[] args) throws Exception {
        int runs = args.length > 0 ? Integer.parseInt(args[0]) : 60;
        int first = args.length > 1 ? Integer.parseInt(args[1]) : 1;
        for (int run = first; run < first + runs && wrong < 20; run++) {
            runOnce(run);
        }
        System.out.println("ModelTest: texts by their FAULT: " + Arrays.toString(landed));
        System.out.println("ModelTest: " + (wrong == 0 ? "all answers are as due" : wrong + " answers are not as due"));
        if (wrong != 0) {
            System.exit(1);
        }
    }

    private static void runOnce(int run) throws Exception {
        Random chance = new Random(run);
        SnowSentries x = new SnowSentries();
        Model model = new Model();
        List<Method> calls = new ArrayList<>();
        for (Method m : SnowSentries.class.getDeclaredMethods()) {
            if (java.lang.reflect.Modifier.isPublic(m.getModifiers())) {
                calls.add(m);
            }
        }
        calls.sort(Comparator.comparing(Method::getName));
        for (int n = 0; n < CALLS;) {
            if (n == 0 || chance.nextInt(90) == 0) {
                n += tell(run, x, model, chance);
            }
            if (chance.nextInt(60) == 0) {
                n += feel(run, x, model, chance);
            }
            Method m = calls.get(chance.nextInt(calls.size()));
            boolean dear = DEAR.contains(m.getName()) && chance.nextInt(4) != 0;
            boolean starts = (m.getName().equals("land") || m.getName().equals("end")) && chance.nextInt(9) != 0;
            if (dear || starts) {
                continue;
            }
            same(run, x, model, m, arguments(m, chance, model));
            n++;
        }
    }

    private static void same(int run, SnowSentries x, Model model, Method m, Object[] arguments) throws Exception {
        long got = ((Number) m.invoke(x, arguments)).longValue();
        Method other = Model.class.getDeclaredMethod(m.getName(), m.getParameterTypes());
        long want = ((Number) other.invoke(model, arguments)).longValue();
        if (got != want) {
            wrong++;
            System.out.println("ModelTest: run " + run + ": " + m.getName() + Arrays.toString(arguments) + " answered " + got
                + ", the model says " + want);
        }
    }

    /** Writes a text on the TAPE of both and lets it tell the land: how many calls that were. */
    private static int tell(int run, SnowSentries x, Model model, Random chance) throws Exception {
        String text = chance.nextInt(3) == 0 ? faulty(land(chance), chance) : land(chance);
        Method feed = SnowSentries.class.getMethod("feed", long.class);
        Method end = SnowSentries.class.getMethod("end", int.class);
        same(run, x, model, end, new Object[] {0});
        int calls = 5;
        for (int at = 0; at < text.length(); at += 8) {
            same(run, x, model, feed, new Object[] {Check.word(text, at)});
            calls++;
        }
        same(run, x, model, end, new Object[] {Math.min(400, text.length())});
        same(run, x, model, SnowSentries.class.getMethod("land"), new Object[0]);
        same(run, x, model, SnowSentries.class.getMethod("fault"), new Object[0]);
        landed[model.fault()]++;
        return calls;
    }

    /** Lets both feel what two BRAZIERS, or one, would do; asks who it was: how many calls that were. */
    private static int feel(int run, SnowSentries x, Model model, Random chance) throws Exception {
        int furlongs = model.rule(0);
        int one = chance.nextInt(furlongs);
        int other = chance.nextInt(furlongs);
        int a = 1 + chance.nextInt(20);
        int b = chance.nextInt(3) == 0 ? 0 : 1 + chance.nextInt(20);
        same(run, x, model, SnowSentries.class.getMethod("forget"), new Object[0]);
        int size = 1 + chance.nextInt(furlongs);
        for (int i = 0; i < size; i++) {
            int v = Math.max(0, a - 4 * Math.abs(one - i)) + Math.max(0, b - 4 * Math.abs(other - i));
            same(run, x, model, SnowSentries.class.getMethod("felt", int.class), new Object[] {v});
        }
        for (int what = 0; what < 3; what++) {
            same(run, x, model, SnowSentries.class.getMethod("spy", int.class), new Object[] {what});
            same(run, x, model, SnowSentries.class.getMethod("spies", int.class), new Object[] {what});
        }
        return size + 7;
    }

    private static String land(Random chance) {
        int furlongs = 1 + chance.nextInt(10);
        List<String> lines = new ArrayList<>();
        lines.add("furlongs " + furlongs + ";");
        for (String row : new String[] {"sun", "frost"}) {
            if (chance.nextInt(5) != 0) {
                StringBuilder line = new StringBuilder(row);
                int most = 1 + chance.nextInt(10);
                for (int h = chance.nextInt(12); h >= 0; h--) {
                    line.append(' ').append(chance.nextInt(most));
                }
                lines.add(line.append(';').toString());
            }
        }
        if (chance.nextInt(3) != 0) {
            lines.add("treaty " + (1 + chance.nextInt(chance.nextBoolean() ? 5 : 30)) + " " + chance.nextInt(3) + " " + chance.nextInt(2) + ";");
        }
        int[] most = {0, 10, 30, 100};
        for (int i = 0; i < furlongs; i++) {
            if (chance.nextInt(3) != 0) {
                lines.add("snow " + i + " " + chance.nextInt(201) + ";");
            }
            for (String side : new String[] {"west ", "east "}) {
                if (chance.nextInt(3) != 0) {
                    int size = most[1 + chance.nextInt(3)];
                    lines.add("man " + side + i + " " + NAMES[10 + chance.nextInt(5)] + " " + chance.nextInt(size) + " " + chance.nextInt(size) + " "
                        + chance.nextInt(size) + " " + chance.nextInt(4) + (chance.nextInt(5) == 0 ? " bare;" : ";"));
                }
            }
        }
        for (int b = chance.nextInt(5); b > 0; b--) {
            int from = chance.nextInt(12);
            lines.add("brazier " + chance.nextInt(furlongs) + " " + (1 + chance.nextInt(20)) + " " + from + " " + (from + chance.nextInt(12 - from)) + ";");
        }
        for (int h = chance.nextInt(6); h > 0; h--) {
            lines.add("house " + chance.nextInt(furlongs) + " " + chance.nextInt(10) + (chance.nextBoolean() ? " west;" : " east;"));
        }
        java.util.Collections.shuffle(lines, chance);
        StringBuilder text = new StringBuilder();
        int room = chance.nextInt(3) == 0 ? 60 + chance.nextInt(200) : 400;
        for (String line : lines) {
            if (text.length() + line.length() <= room) {
                text.append(line);
            }
        }
        return text.toString();
    }

    private static String faulty(String text, Random chance) {
        int at = chance.nextInt(text.length());
        switch (chance.nextInt(10)) {
            case 0: return text.substring(0, at);
            case 1: return text.substring(0, at) + text.substring(at + 1);
            case 2: return text.substring(0, at) + (char) chance.nextInt(256) + text.substring(at + 1);
            case 3: return text.replaceFirst("[0-9]+", "" + chance.nextInt(1200));
            case 4: return text.replaceFirst("furlongs [0-9]+;", "");
            case 5: return text.substring(0, at) + " " + NAMES[chance.nextInt(NAMES.length)] + " " + text.substring(at);
            case 6: {
                String[] lines = text.split(";");
                return lines[chance.nextInt(lines.length)] + ";" + text;
            }
            case 7: return hours(chance) + text.replaceAll("(sun|frost)[ 0-9]*;", "");
            case 8: return "brazier 0 9 1 2;".repeat(4 + chance.nextInt(4)) + "house 0 1 west;".repeat(5 + chance.nextInt(5)) + text;
            default: return text.replaceFirst(" ([0-9]+;)", " 1 2 3 4 5 6 7 8 9 0 1 2 $1");
        }
    }

    /** A row of about as many HOURS as there may be, one of which may be out of its bounds. */
    private static String hours(Random chance) {
        int size = 11 + chance.nextInt(4);
        int odd = chance.nextInt(size + 4);
        StringBuilder line = new StringBuilder(chance.nextBoolean() ? "sun" : "frost");
        for (int h = 0; h < size; h++) {
            line.append(' ').append(h == odd || h == 12 ? chance.nextInt(1200) : chance.nextInt(10));
        }
        return line.append(';').toString();
    }

    /** Mostly numbers that are as told, at times others. */
    private static Object[] arguments(Method m, Random chance, Model model) {
        Class<?>[] types = m.getParameterTypes();
        Object[] all = new Object[types.length];
        for (int k = 0; k < types.length; k++) {
            if (types[k] == long.class) {
                all[k] = chance.nextLong();
            } else if (types[k] == boolean.class) {
                all[k] = chance.nextBoolean();
            } else {
                all[k] = number(most(m.getName(), k, model), chance);
            }
        }
        if (m.getName().equals("carry") && chance.nextInt(6) != 0) {
            all[1] = (int) all[0] + (chance.nextBoolean() ? 1 : -1);
        }
        if (m.getName().equals("lead") && chance.nextInt(6) != 0) {
            all[2] = chance.nextInt(3) == 0 ? 0 : 10 + chance.nextInt(12);
        }
        if (m.getName().equals("go") && chance.nextInt(3) != 0) {
            all[0] = 1;
        }
        if (List.of("felt", "lay").contains(m.getName()) && chance.nextBoolean()) {
            all[all.length - 1] = chance.nextInt(chance.nextBoolean() ? 10 : 25);
        }
        return all;
    }

    private static int number(int most, Random chance) {
        switch (chance.nextInt(40)) {
            case 0: return -1;
            case 1: return most + 1;
            case 2: return chance.nextInt();
            case 3: return chance.nextBoolean() ? Integer.MIN_VALUE : Integer.MAX_VALUE;
            default: return chance.nextInt(most + 1);
        }
    }

    private static int most(String call, int k, Model model) {
        int furlong = model.rule(0) - 1;
        switch (call) {
            case "end": return 400;
            case "rule": return 5;
            case "hour": return new int[] {11, 1}[k];
            case "furlong": return new int[] {furlong, 3}[k];
            case "man": return new int[] {1, furlong, 5}[k];
            case "brazier": return new int[] {5, 3}[k];
            case "house": return new int[] {7, 2}[k];
            case "shine": return new int[] {11, 9}[k];
            case "treaty": return new int[] {2, 12}[k];
            case "chance": return 10;
            case "light": return new int[] {furlong, 20, 11, 11}[k];
            case "quench": return 5;
            case "mend": return new int[] {1, furlong, 60}[k];
            case "carry": return new int[] {furlong, furlong, 150}[k];
            case "heat": return new int[] {furlong, 11}[k];
            case "go": return 12;
            case "later": case "need": return new int[] {1, furlong, 12}[k];
            case "line": return new int[] {furlong, 12}[k];
            case "houses": case "holds": return new int[] {1, 12}[k];
            case "crews": return new int[] {1, 12, 10, 2}[k];
            case "gap": return 1;
            case "lead": return new int[] {furlong, 99, 21}[k];
            case "felt": return 99;
            case "spy": case "spies": return 2;
            case "odds": return new int[] {1, furlong, 12, 1}[k];
            case "talks": case "strength": case "keep": case "back": return 1;
            case "sheet": return new int[] {3, 2, 40}[k];
            case "lay": return new int[] {3, 39, 300}[k];
            case "read": return new int[] {3, 2, 39, 12}[k];
            default: return 6;
        }
    }
}
