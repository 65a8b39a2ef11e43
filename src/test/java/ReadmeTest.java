import java.io.IOException;
import java.lang.reflect.Method;
import java.nio.file.Files;
import java.nio.file.Path;
import java.util.regex.Matcher;
import java.util.regex.Pattern;

/** Every line of the README's blocks of Java is a new object or a call with its answer told behind it, and answers so. */
public final class ReadmeTest {
    static final Pattern BLOCK = Pattern.compile("(?ms)^```java\n(.*?)^```$");
    static final Pattern CALL = Pattern.compile("camp\\.(\\w+)\\(([^)]*)\\); +// (-?\\d+): .+");
    static final String NEW = "NearestTents camp = new NearestTents();";

    static int asked;
    static int wrong;

    static void fail(String line, String what) {
        wrong++;
        System.out.println(line + " " + what);
    }

    static int answer(NearestTents camp, String name, String arguments) throws ReflectiveOperationException {
        String[] told = arguments.isEmpty() ? new String[0] : arguments.split(", ");
        Class<?>[] types = new Class<?>[told.length];
        Object[] values = new Object[told.length];
        for (int i = 0; i < told.length; i++) {
            types[i] = int.class;
            values[i] = Integer.decode(told[i]);
        }
        Method method = NearestTents.class.getMethod(name, types);
        return (Integer) method.invoke(camp, values);
    }

    static void check(String block) throws ReflectiveOperationException {
        NearestTents camp = null;
        for (String line : block.split("\n")) {
            Matcher call = CALL.matcher(line);
            if (line.equals(NEW)) {
                camp = new NearestTents();
            } else if (camp == null || !call.matches()) {
                fail(line, "is no call of which the answer is told");
            } else {
                asked++;
                int got = answer(camp, call.group(1), call.group(2));
                if (got != Integer.parseInt(call.group(3))) {
                    fail(line, "answered " + got);
                }
            }
        }
    }

    public static void main(String[] args) throws IOException, ReflectiveOperationException {
        Matcher block = BLOCK.matcher(Files.readString(Path.of("README.md")));
        while (block.find()) {
            check(block.group(1));
        }
        if (asked == 0) {
            fail("README.md", "tells no call");
        }
        System.out.println(asked + " calls of the README, " + wrong + " not as told");
        if (wrong != 0) {
            System.exit(1);
        }
    }
}
