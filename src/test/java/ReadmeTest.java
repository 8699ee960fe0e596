import java.lang.reflect.Method;
import java.lang.reflect.Modifier;
import java.nio.charset.StandardCharsets;
import java.nio.file.Files;
import java.nio.file.Path;
import java.util.Set;
import java.util.TreeSet;
import java.util.regex.Matcher;
import java.util.regex.Pattern;

/**
 * Makes the calls that README.md shows, in their order, on one object: each answers what is told
 * behind it, and each method of the face is shown.
 */
public final class ReadmeTest {
    private static final String README = "README.md";
    private static final String MADE = "LettersLeaping lake = new LettersLeaping();";
    private static final Pattern CALL = Pattern.compile("lake\\.(\\w+)\\(([^()]*)\\); +// (-?\\d+)\\b.*");
    private static final int MOST_CALLS = 512;
    private static int wrong = 0;

    private static void fault(String what) {
        wrong++;
        System.out.println(what);
    }

    public static void main(String[] args) throws Exception {
        String readme = Files.readString(Path.of(README), StandardCharsets.UTF_8);
        LettersLeaping lake = null;
        Set<String> shown = new TreeSet<>();
        int calls = 0;
        Matcher blocks = Pattern.compile("(?s)```java\n(.*?)```").matcher(readme);
        while (blocks.find()) {
            for (String line : blocks.group(1).split("\n")) {
                Matcher call = CALL.matcher(line);
                if (line.equals(MADE) && lake == null) {
                    lake = new LettersLeaping();
                } else if (lake != null && call.matches()) {
                    calls++;
                    shown.add(call.group(1));
                    make(lake, call, line);
                } else if (!line.isBlank()) {
                    fault("not a call with its answer: " + line);
                }
            }
        }
        if (!shown.equals(face())) {
            fault("the face is " + face() + ", shown are " + shown);
        }
        if (calls > MOST_CALLS) {
            fault(calls + " calls of one object");
        }
        System.out.println(wrong == 0 ? calls + " calls of README.md answer as it tells" : wrong + " faults");
        if (wrong != 0) {
            System.exit(1);
        }
    }

    private static Set<String> face() {
        Set<String> names = new TreeSet<>();
        for (Method method : LettersLeaping.class.getDeclaredMethods()) {
            if (Modifier.isPublic(method.getModifiers())) {
                names.add(method.getName());
            }
        }
        return names;
    }

    private static void make(LettersLeaping lake, Matcher call, String line) throws Exception {
        String[] told = call.group(2).isBlank() ? new String[0] : call.group(2).split(", ");
        for (Method method : LettersLeaping.class.getDeclaredMethods()) {
            if (Modifier.isPublic(method.getModifiers()) && method.getName().equals(call.group(1))) {
                long got = ((Number) method.invoke(lake, given(method, told))).longValue();
                if (got != Long.parseLong(call.group(3))) {
                    fault(line + " -- answered " + got);
                }
                return;
            }
        }
        fault("no such method: " + line);
    }

    private static Object[] given(Method method, String[] told) {
        Object[] given = new Object[told.length];
        for (int i = 0; i < told.length; i++) {
            Class<?> type = method.getParameterTypes()[i];
            given[i] = type == boolean.class ? (Object) Boolean.valueOf(told[i])
                    : type == long.class ? (Object) number(told[i])
                    : (Object) number(told[i]).intValue();
        }
        return given;
    }

    private static Long number(String told) {
        return told.equals("LettersLeaping.NONE") ? Long.valueOf(LettersLeaping.NONE) : Long.decode(told);
    }
}
