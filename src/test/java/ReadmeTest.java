import java.lang.reflect.Method;
import java.lang.reflect.Modifier;
import java.nio.file.Files;
import java.nio.file.Path;
import java.util.regex.Matcher;
import java.util.regex.Pattern;

/** README.md tells the truth: its example answers what stands behind each line, and it names each call of the face. */
public final class ReadmeTest {
    private static final Check check = new Check("ReadmeTest");
    private static final Pattern WRITE = Pattern.compile("write\\(x, \"(.*)\"\\);");
    private static final Pattern CALL = Pattern.compile("x\\.(\\w+)\\((.*)\\); +// (-?\\d+).*");

    public static void main(String[] args) throws Exception {
        String readme = Files.readString(Path.of("README.md"));
        example(readme);
        names(readme);
        check.finish();
    }

    private static void example(String readme) throws Exception {
        SnowSentries x = new SnowSentries();
        int asked = 0;
        for (String line : readme.split("\n")) {
            Matcher write = WRITE.matcher(line);
            Matcher call = CALL.matcher(line);
            if (write.matches()) {
                writeAsTold(x, write.group(1));
            } else if (call.matches()) {
                check.due(line, answer(x, call.group(1), call.group(2)), Long.parseLong(call.group(3)));
                asked++;
            } else {
                check.due("can be run: " + line, line.startsWith("x.") ? 0 : 1, 1);
            }
        }
        check.due("the example asks something", asked > 20 ? 1 : 0, 1);
    }

    /** As the README does it: no end(n) behind the last word. */
    private static void writeAsTold(SnowSentries x, String text) {
        x.end(0);
        for (int at = 0; at < text.length(); at += 8) {
            x.feed(Check.word(text, at));
        }
    }

    private static long answer(SnowSentries x, String name, String arguments) throws Exception {
        String[] told = arguments.isEmpty() ? new String[0] : arguments.split(", ");
        for (Method m : SnowSentries.class.getMethods()) {
            if (m.getName().equals(name) && m.getParameterCount() == told.length) {
                Object[] values = new Object[told.length];
                for (int k = 0; k < told.length; k++) {
                    boolean yesNo = m.getParameterTypes()[k] == boolean.class;
                    values[k] = yesNo ? (Object) Boolean.valueOf(told[k]) : (Object) Integer.valueOf(told[k]);
                }
                return ((Number) m.invoke(x, values)).longValue();
            }
        }
        throw new IllegalStateException("README.md asks " + name + ", which is not of the face");
    }

    private static void names(String readme) {
        for (Method m : SnowSentries.class.getDeclaredMethods()) {
            if (Modifier.isPublic(m.getModifiers())) {
                check.due("README.md names " + m.getName(), readme.contains("`" + m.getName() + "`") ? 1 : 0, 1);
            }
        }
    }
}
