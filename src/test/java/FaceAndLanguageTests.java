import java.io.IOException;
import java.lang.reflect.Constructor;
import java.lang.reflect.Field;
import java.lang.reflect.Method;
import java.lang.reflect.Modifier;
import java.nio.file.Files;
import java.nio.file.Path;
import java.util.ArrayList;
import java.util.Collections;
import java.util.List;
import java.util.Set;
import java.util.TreeSet;
import java.util.regex.Matcher;
import java.util.regex.Pattern;

/** The document's face, and what of ../shared/LANGUAGE.md can be told from the source's words. */
public final class FaceAndLanguageTests {
    private static final String SOURCE = "src/main/java/NightLots.java";
    private static final List<String> FACE = List.of("write(int)", "wipe()", "fault()", "lay()", "house(int,int)", "hour(int,int)",
            "heavy(int,int)", "had(int,int)", "pass(int)", "swap(int,int)", "rest(int)", "burden(int,int)", "undo()",
            "behind(int,int,int)", "gaps()", "first(int)", "even(int)", "swaps()", "far(int)", "lamps(int,int)",
            "seen(int,int,int)", "forget()", "kinds(int)", "strengths(int,int)", "likely(int,int,int)", "winter(int,int,int)",
            "keep()", "back()", "count(int)");
    private static final String[] RULED_OUT = {"\\bthrow\\b", "\\bthrows\\b", "\\btry\\b", "\\bcatch\\b", "\\bsynchronized\\b",
        "\\bassert\\b", "->", "::", "\\bimport\\b", "\\bpackage\\b", "\\bSystem\\.(out|err|nanoTime|currentTimeMillis|exit)\\b",
        "\\bThread\\b", "\\bRandom\\b", "\\w+Exact\\b", "\\bprotected\\b", "\\bvar\\b", "\\bObject\\b", "@"};
    private static int wrong = 0;

    public static void main(String[] args) throws IOException {
        checkFace();
        checkWords();
        checkSizes();
        System.out.println(wrong == 0 ? "face and language: all as due" : "face and language: " + wrong + " not as due");
        if (wrong != 0) {
            System.exit(1);
        }
    }

    private static void fail(String what) {
        wrong++;
        System.out.println("face and language: " + what);
    }

    private static void checkFace() {
        Set<String> found = new TreeSet<>();
        Set<String> publicNames = new TreeSet<>();
        for (Method method : NightLots.class.getDeclaredMethods()) {
            if (!Modifier.isPrivate(method.getModifiers())) {
                found.add(told(method));
                publicNames.add(method.getName());
                if (!Modifier.isPublic(method.getModifiers()) || method.getReturnType() != int.class) {
                    fail("not public or not int: " + method);
                }
            }
        }
        if (!found.equals(new TreeSet<>(FACE))) {
            fail("the face is " + found);
        }
        for (Method method : NightLots.class.getDeclaredMethods()) {
            if (Modifier.isPrivate(method.getModifiers()) && publicNames.contains(method.getName())) {
                fail("a private method bears a public one's name: " + method);
            }
        }
        checkFields();
        Constructor<?>[] constructors = NightLots.class.getDeclaredConstructors();
        if (constructors.length != 1 || constructors[0].getParameterCount() != 0) {
            fail("other constructors");
        }
        for (Class<?> inside : NightLots.class.getDeclaredClasses()) {
            if (!Modifier.isStatic(inside.getModifiers()) || inside.getDeclaredFields().length > 20) {
                fail("a class inside: " + inside);
            }
        }
    }

    private static String told(Method method) {
        List<String> parameters = new ArrayList<>();
        for (Class<?> type : method.getParameterTypes()) {
            parameters.add(type.getName());
        }
        return method.getName() + "(" + String.join(",", parameters) + ")";
    }

    private static void checkFields() {
        List<String> names = new ArrayList<>();
        for (Field field : NightLots.class.getDeclaredFields()) {
            int modifiers = field.getModifiers();
            if (!Modifier.isPrivate(modifiers)) {
                names.add(field.getName());
            }
            if (Modifier.isStatic(modifiers) && !Modifier.isFinal(modifiers)) {
                fail("a static field that is not final: " + field);
            }
        }
        Collections.sort(names);
        if (!names.equals(List.of("BAD", "FULL", "NO", "NONE"))) {
            fail("fields that can be seen: " + names);
        }
    }

    private static void checkWords() throws IOException {
        String bare = withoutComments(Files.readString(Path.of(SOURCE)));
        for (String word : RULED_OUT) {
            Matcher matcher = Pattern.compile(word).matcher(bare);
            if (matcher.find()) {
                fail("ruled out: " + matcher.group());
            }
        }
    }

    private static String withoutComments(String source) {
        return source.replaceAll("(?s)/\\*.*?\\*/", "").replaceAll("//[^\n]*", "");
    }

    /** Methods begin and end with their own indentation, by which their lines are counted. */
    private static void checkSizes() throws IOException {
        int began = 0;
        String end = "";
        List<String> lines = Files.readAllLines(Path.of(SOURCE));
        for (int i = 0; i < lines.size(); i++) {
            String line = lines.get(i);
            if (line.matches("( {4}| {8})[\\w\\[\\] ]+\\([^;]*\\) \\{") && !line.matches(" *(if|for|while|switch) .*")) {
                began = i;
                end = line.replaceAll("\\S.*", "") + "}";
            } else if (line.equals(end)) {
                if (i - began > 60) {
                    fail("a long method ends in line " + (i + 1));
                }
                end = "";
            }
        }
    }
}
