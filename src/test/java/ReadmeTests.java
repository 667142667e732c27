import java.io.IOException;
import java.lang.reflect.Method;
import java.lang.reflect.Modifier;
import java.nio.file.Files;
import java.nio.file.Path;
import java.util.Arrays;
import java.util.Map;
import java.util.TreeSet;
import java.util.regex.Matcher;
import java.util.regex.Pattern;

/** README.md's examples, each line answered as it tells, and each call of the face named in it. */
public final class ReadmeTests {
    private static final Pattern NEW = Pattern.compile("NightLots lots = new NightLots\\(\\);");
    private static final Pattern TEXT = Pattern.compile("for \\(char letter : \"([^\"]*)\"\\.toCharArray\\(\\)\\) \\{");
    private static final Pattern CALL = Pattern.compile("lots\\.(\\w+)\\(([-\\d, ]*)\\); +// (-?\\d+|[A-Z]+)\\b.*");
    private static final Pattern REST_OF_LOOP = Pattern.compile(" *lots\\.write\\(letter\\);.*|\\}");
    private static final Map<String, Integer> REFUSALS = Map.of("BAD", NightLots.BAD, "NO", NightLots.NO,
            "FULL", NightLots.FULL, "NONE", NightLots.NONE);
    private static int wrong = 0;
    private static int told = 0;
    private static NightLots lots;

    public static void main(String[] args) throws IOException, ReflectiveOperationException {
        String readme = Files.readString(Path.of("README.md"));
        boolean isExample = false;
        for (String line : readme.lines().toList()) {
            if (line.startsWith("```")) {
                isExample = line.equals("```java");
            } else if (isExample) {
                runLine(line);
            }
        }
        checkNames(readme);
        System.out.println("README: " + told + " answers, " + (wrong == 0 ? "all as due" : wrong + " faults"));
        if (wrong != 0 || told == 0) {
            System.exit(1);
        }
    }

    private static void fail(String what) {
        wrong++;
        System.out.println("README: " + what);
    }

    private static void runLine(String line) throws ReflectiveOperationException {
        Matcher text = TEXT.matcher(line);
        Matcher call = CALL.matcher(line);
        if (NEW.matcher(line).matches()) {
            lots = new NightLots();
        } else if (text.matches()) {
            for (char letter : text.group(1).toCharArray()) {
                lots.write(letter);
            }
        } else if (call.matches()) {
            runCall(line, call.group(1), call.group(2), call.group(3));
        } else if (!REST_OF_LOOP.matcher(line).matches()) {
            fail("can't be run: " + line);
        }
    }

    private static void runCall(String line, String name, String numbers, String answer)
            throws ReflectiveOperationException {
        Object[] given = Arrays.stream(numbers.split(", *")).filter(s -> !s.isEmpty()).map(Integer::valueOf).toArray();
        Class<?>[] types = new Class<?>[given.length];
        Arrays.fill(types, int.class);
        Integer want = REFUSALS.containsKey(answer) ? REFUSALS.get(answer) : Integer.valueOf(answer);
        Object got = NightLots.class.getMethod(name, types).invoke(lots, given);
        told++;
        if (!want.equals(got)) {
            fail(line + " (answered " + got + ")");
        }
    }

    private static void checkNames(String readme) {
        TreeSet<String> names = new TreeSet<>();
        for (Method method : NightLots.class.getDeclaredMethods()) {
            if (Modifier.isPublic(method.getModifiers())) {
                names.add(method.getName());
            }
        }
        for (String name : names) {
            if (!readme.contains("`" + name + "`")) {
                fail("does not name " + name);
            }
        }
    }
}
