import java.lang.management.ManagementFactory;
import java.lang.reflect.Constructor;
import java.lang.reflect.Field;
import java.lang.reflect.Method;
import java.lang.reflect.Modifier;
import java.nio.file.Files;
import java.nio.file.Path;
import java.util.ArrayList;
import java.util.HashSet;
import java.util.List;
import java.util.Set;
import java.util.TreeSet;
import java.util.regex.Matcher;
import java.util.regex.Pattern;

/** The face of the document, the rules of LANGUAGE.md that can be looked at from outside, and the room that calls take. */
public final class FaceTest {
    private static final Check check = new Check("FaceTest");
    private static final String FACE = "all() back(int) brazier(int,int) carry(int,int,int) chance(int) count(int) crews(int,int,int,int) dawn() "
        + "end(int) fault() feed(long) felt(int) forget() furlong(int,int) gap(int,int) go(int) heat(int,int,boolean) holds(int,int) "
        + "hour(int,int) house(int,int) houses(int,int) keep(int) land() later(int,int,int) lay(int,int,int) lead(int,int,int) "
        + "light(int,int,int,int) line(int,int) man(int,int,int) mend(int,int,int) need(int,int,int) odds(int,int,int,int):long quench(int) "
        + "read(int,int,int,int) rule(int) sheet(int,int,int) shine(int,int) spies(int) spy(int) strength(int) talks(int) torn() treaty(int,int)";

    public static void main(String[] args) throws Exception {
        constants();
        face();
        insides();
        source();
        room();
        check.finish();
    }

    private static void constants() {
        check.due("BAD", SnowSentries.BAD, -1);
        check.due("STATE", SnowSentries.STATE, -2);
        check.due("FULL", SnowSentries.FULL, -3);
        check.due("NONE", SnowSentries.NONE, -4);
    }

    private static void face() {
        Set<String> open = new TreeSet<>();
        for (Method m : SnowSentries.class.getDeclaredMethods()) {
            if (!Modifier.isPrivate(m.getModifiers())) {
                StringBuilder told = new StringBuilder(m.getName()).append('(');
                for (Class<?> type : m.getParameterTypes()) {
                    told.append(told.charAt(told.length() - 1) == '(' ? "" : ",").append(type.getName());
                }
                open.add(told.append(')').append(m.getReturnType() == int.class ? "" : ":" + m.getReturnType()).toString());
                check.due(m.getName() + " is public alone", m.getModifiers(), Modifier.PUBLIC);
            }
        }
        check.dueText("the face", String.join(" ", open), FACE);
        Set<String> fields = new TreeSet<>();
        for (Field f : SnowSentries.class.getDeclaredFields()) {
            if (!Modifier.isPrivate(f.getModifiers())) {
                fields.add(f.getName());
            }
        }
        check.dueText("the constants", fields.toString(), "[BAD, FULL, NONE, STATE]");
        Constructor<?>[] makers = SnowSentries.class.getDeclaredConstructors();
        check.due("constructors", makers.length, 1);
        check.due("the constructor", makers[0].getParameterCount(), 0);
        check.due("public final", SnowSentries.class.getModifiers(), Modifier.PUBLIC | Modifier.FINAL);
    }

    private static void insides() {
        Set<String> names = new HashSet<>();
        for (Method m : SnowSentries.class.getMethods()) {
            if (m.getDeclaringClass() == SnowSentries.class) {
                names.add(m.getName());
            }
        }
        Class<?>[] inside = SnowSentries.class.getDeclaredClasses();
        check.due("few classes", inside.length <= 11 ? 1 : 0, 1);
        List<Class<?>> all = new ArrayList<>(List.of(inside));
        all.add(SnowSentries.class);
        for (Class<?> c : all) {
            check.due(c.getName() + " is static", c == SnowSentries.class || Modifier.isStatic(c.getModifiers()) ? 1 : 0, 1);
            int fields = 0;
            for (Field f : c.getDeclaredFields()) {
                boolean constant = Modifier.isStatic(f.getModifiers());
                fields += constant ? 0 : 1;
                check.due(c.getName() + "." + f.getName() + " is final", !constant || Modifier.isFinal(f.getModifiers()) ? 1 : 0, 1);
            }
            check.due(c.getName() + " has few fields", fields <= 20 ? 1 : 0, 1);
            for (Method m : c.getDeclaredMethods()) {
                check.due(m + " has few parameters", m.getParameterCount() <= 7 ? 1 : 0, 1);
                boolean alike = names.contains(m.getName()) && !(c == SnowSentries.class && Modifier.isPublic(m.getModifiers()));
                check.due(m + " has a name of its own", alike ? 0 : 1, 1);
            }
        }
    }

    private static void source() throws Exception {
        String text = Files.readString(Path.of("src/main/java/SnowSentries.java"));
        for (int k = 0; k < text.length(); k++) {
            if (text.charAt(k) > 127) {
                check.due("sign " + k, text.charAt(k), 127);
            }
        }
        String code = text.replaceAll("(?s)/\\*.*?\\*/", "").replaceAll("//[^\n]*", "").replaceAll("\"[^\"]*\"", "\"\"");
        String words = "throw|throws|try|catch|finally|synchronized|assert|record|package|protected|hashCode|toString|System\\.out|Math\\.\\w+Exact|->|::";
        Matcher met = Pattern.compile("(?<!\\w)(" + words + ")(?!\\w)").matcher(code);
        while (met.find()) {
            check.dueText("a word that the rules leave out", met.group(), "");
        }
        check.due("imports", Pattern.compile("(?m)^import ").matcher(code).results().count(), 1);
        int since = 0;
        for (String line : code.split("\n")) {
            boolean begins = line.matches(" {4}( {4})?[a-zA-Z].*\\) \\{") && !line.contains(" class ");
            since = begins ? 0 : since + 1;
            if (line.matches(" {4}( {4})?\\}") && since > 60) {
                check.dueText("a method of " + since + " lines ends", line, "");
            }
            if (line.matches(" {4}( {4})?\\}")) {
                since = 0;
            }
        }
    }

    /** No call makes an object: all rows are made with the object itself. */
    private static void room() {
        com.sun.management.ThreadMXBean counter = (com.sun.management.ThreadMXBean) ManagementFactory.getThreadMXBean();
        if (!counter.isThreadAllocatedMemorySupported()) {
            return;
        }
        SnowSentries x = Check.told("furlongs 10;sun 1 2 3 4 5 6 7 8 9;treaty 3 0 0;snow 0 99;man west 0 plain 9 9 9 1;man east 9 child 9 9 9 1;brazier 4 20 0 11;");
        askAll(x);
        long before = counter.getThreadAllocatedBytes(Thread.currentThread().getId());
        for (int n = 0; n < 15; n++) {
            askAll(x);
        }
        long made = counter.getThreadAllocatedBytes(Thread.currentThread().getId()) - before;
        check.due("bytes made by calls are few (" + made + ")", made < 4096 ? 1 : 0, 1);
    }

    private static void askAll(SnowSentries x) {
        x.keep(0);
        x.crews(0, 12, 10, 2);
        x.lead(5, 99, 21);
        x.felt(7);
        x.spy(0);
        x.spies(0);
        x.forget();
        x.odds(0, 0, 12, 0);
        x.talks(0);
        x.gap(0, 0);
        x.later(1, 9, 12);
        x.line(9, 12);
        x.houses(0, 12);
        x.holds(1, 12);
        x.need(1, 9, 12);
        x.sheet(0, 2, 40);
        x.lay(0, 1, 5);
        x.read(0, 2, 0, 12);
        x.go(12);
        x.back(0);
        x.feed(Check.word("sun 1 2 ", 0));
        x.land();
        x.feed(Check.word("snow 0 9", 0));
        x.feed(Check.word(";       ", 0));
        x.land();
    }
}
