import java.lang.reflect.Constructor;
import java.lang.reflect.Field;
import java.lang.reflect.Method;
import java.lang.reflect.Modifier;
import java.nio.charset.StandardCharsets;
import java.nio.file.Files;
import java.nio.file.Path;
import java.util.Arrays;
import java.util.List;
import java.util.Set;
import java.util.TreeSet;
import java.util.regex.Matcher;
import java.util.regex.Pattern;
import java.util.stream.Collectors;

/** The public face as the document has it, and those rules of LANGUAGE.md that can be looked up. */
public final class RulesTest {
    private static final String SOURCE = "src/main/java/LettersLeaping.java";
    private static final String DOCUMENT = "../shared/DOC.md";
    private static int wrong = 0;
    private static int checked = 0;

    private static void due(boolean is, String what) {
        checked++;
        if (!is) {
            wrong++;
            System.out.println("not so: " + what);
        }
    }

    public static void main(String[] args) throws Exception {
        String source = Files.readString(Path.of(SOURCE), StandardCharsets.ISO_8859_1);
        String document = Files.readString(Path.of(DOCUMENT), StandardCharsets.UTF_8);
        face(document);
        members();
        classesInside();
        words(source);
        lengths(source);
        quotes(document);
        System.out.println(wrong == 0 ? checked + " rules are kept" : wrong + " rules are not kept");
        if (wrong != 0) {
            System.exit(1);
        }
    }

    private static void face(String document) throws Exception {
        Set<String> told = new TreeSet<>();
        Matcher lines = Pattern.compile("^    public (int|long) (\\w+)\\((.*)\\);$", Pattern.MULTILINE).matcher(document);
        while (lines.find()) {
            String types = lines.group(3).replaceAll("(int|long|boolean) \\w+", "$1");
            told.add(lines.group(1) + " " + lines.group(2) + "(" + types + ")");
        }
        due(told.size() == 47, "the document tells 47 methods");
        Set<String> ours = new TreeSet<>();
        for (Method method : LettersLeaping.class.getDeclaredMethods()) {
            if (Modifier.isPublic(method.getModifiers())) {
                String types = Arrays.stream(method.getParameterTypes()).map(Class::getName).collect(Collectors.joining(", "));
                ours.add(method.getReturnType().getName() + " " + method.getName() + "(" + types + ")");
                due(!Modifier.isStatic(method.getModifiers()), method + " is not static");
            }
        }
        due(ours.equals(told), "the face is " + told + ", not " + ours);
        due(LettersLeaping.class.getModifiers() == (Modifier.PUBLIC | Modifier.FINAL), "the class is public and final");
        Constructor<?>[] makers = LettersLeaping.class.getDeclaredConstructors();
        due(makers.length == 1 && makers[0].getModifiers() == Modifier.PUBLIC && makers[0].getParameterCount() == 0,
                "one public constructor");
        Field none = LettersLeaping.class.getDeclaredField("NONE");
        due(Modifier.isPublic(none.getModifiers()) && none.getInt(null) == -1, "NONE is -1");
    }

    private static void members() {
        Set<String> names = Arrays.stream(LettersLeaping.class.getDeclaredMethods())
                .filter(m -> Modifier.isPublic(m.getModifiers())).map(Method::getName).collect(Collectors.toSet());
        for (Method method : LettersLeaping.class.getDeclaredMethods()) {
            boolean isPublic = Modifier.isPublic(method.getModifiers());
            due(isPublic || Modifier.isPrivate(method.getModifiers()), method + " is public or private");
            due(isPublic || !names.contains(method.getName()), method + " has no public one's name");
        }
        for (Field field : LettersLeaping.class.getDeclaredFields()) {
            due(field.getName().equals("NONE") || Modifier.isPrivate(field.getModifiers()), field + " is private");
        }
        for (Class<?> inside : LettersLeaping.class.getDeclaredClasses()) {
            for (Method method : inside.getDeclaredMethods()) {
                due(!names.contains(method.getName()), method + " has no public one's name");
            }
        }
    }

    private static void classesInside() {
        due(LettersLeaping.class.getDeclaredClasses().length < 12, "at most twelve classes");
        classRules(LettersLeaping.class);
        for (Class<?> inside : LettersLeaping.class.getDeclaredClasses()) {
            int modifiers = inside.getModifiers();
            due(Modifier.isStatic(modifiers), inside + " is static");
            due(!Modifier.isPublic(modifiers) && !Modifier.isProtected(modifiers), inside + " is not public");
            due(inside.getDeclaredClasses().length == 0, inside + " has no classes inside");
            classRules(inside);
        }
    }

    private static void classRules(Class<?> one) {
        List<Class<?>> constants = List.of(int.class, long.class, boolean.class, char.class, String.class,
                int[].class, long[].class, char[].class, byte[].class);
        int fields = 0;
        for (Field field : one.getDeclaredFields()) {
            if (Modifier.isStatic(field.getModifiers())) {
                due(Modifier.isFinal(field.getModifiers()) && constants.contains(field.getType()), field + " is a constant");
            } else {
                fields++;
            }
        }
        due(fields <= 20, one + " has twenty fields at most");
        for (Method method : one.getDeclaredMethods()) {
            due(method.getParameterCount() <= 7, method + " takes seven parameters at most");
        }
    }

    private static String withoutTexts(String source) {
        return source.replaceAll("(?s)/\\*.*?\\*/", " ").replaceAll("//[^\n]*", " ")
                .replaceAll("\"[^\"\n]*\"", "\"\"").replaceAll("'[^'\n]'", "' '");
    }

    private static void words(String source) {
        due(source.chars().allMatch(c -> c == '\n' || c >= 32 && c < 127), "plain signs alone");
        String code = withoutTexts(source);
        String[] forbidden = {"throw", "throws", "try", "catch", "finally", "synchronized", "assert", "import", "package",
            "protected", "volatile", "native", "transient", "double", "float", "Object", "var", "record", "enum", "yield",
            "System\\.(?!arraycopy)\\w+", "Thread", "Random", "\\w+Exact", "equals", "hashCode", "toString"};
        for (String word : forbidden) {
            Matcher found = Pattern.compile("\\b" + word + "\\b").matcher(code);
            due(!found.find(), "no '" + word + "'");
        }
        due(!code.contains("->") && !code.contains("::"), "no lambda, no method reference");
        due(!code.contains("static {"), "no static block");
        due(!Pattern.compile("for \\(;|while \\(true").matcher(code).find(), "every loop has an end that can be seen");
        // Objects are made with the object alone, so that 512 calls need no more room than one.
        due(Pattern.compile("\\bnew\\b").matcher(code).results().count()
                == Pattern.compile("(?m)^ {4,8}(private )?(final |static )*[\\w\\[\\]]+ \\w+ = new |^ {12,16}\\w+\\[\\w+\\] = new ")
                .matcher(code).results().count(), "'new' for fields and in constructors alone");
    }

    /**
     * What the tests of boundaries quote stands in the document, under the promise they name (0: the
     * terms), and of the terms and of every promise all words are quoted by one of them.
     */
    private static void quotes(String document) throws Exception {
        String[] left = new String[49];
        for (int promise = 0; promise < left.length; promise++) {
            left[promise] = part(document, promise);
        }
        for (String name : List.of("TermsTest", "BoundaryTest", "RefusalTest")) {
            String test = Files.readString(Path.of("src/test/java/" + name + ".java"), StandardCharsets.ISO_8859_1);
            Matcher calls = Pattern.compile("\\bof\\((\\d+), ((?:\"[^\"]*\"|\\s|\\+)+)\\);").matcher(test);
            while (calls.find()) {
                int promise = Integer.parseInt(calls.group(1));
                String words = calls.group(2).replaceAll("\"\\s*\\+\\s*\"", "").replace("\"", "");
                String text = part(document, promise);
                due(text.contains(words), name + " quotes promise " + promise + ": " + words);
                left[promise] = without(left[promise], text, words);
            }
        }
        for (int promise = 0; promise < left.length; promise++) {
            String words = left[promise].replaceAll("\\W+", " ").trim();
            due(words.isEmpty(), "all is quoted of promise " + promise + ", not " + words);
        }
    }

    /** What is left of a text if some words of it, wherever they stand in it, become blanks. */
    private static String without(String left, String text, String words) {
        StringBuilder rest = new StringBuilder(left);
        for (int at = text.indexOf(words); at >= 0; at = text.indexOf(words, at + 1)) {
            for (int i = at; i < at + words.length(); i++) {
                rest.setCharAt(i, ' ');
            }
        }
        return rest.toString();
    }

    /** The words of a promise behind its method's head; those of the terms but their headings. */
    private static String part(String document, int promise) {
        String head = promise == 0 ? "## Terms" : "## Promise " + promise + ": ";
        int from = document.indexOf(head);
        String text = document.substring(from, document.indexOf("\n## ", from)).substring(head.length());
        return promise == 0
                ? text.replaceAll("```(text)?|==== .*|SHELVES, JETTIES\n", " ").replaceAll("\\s+", " ")
                : text.replaceAll("(?s)^.*?`: ", "").replaceAll("\\s+", " ");
    }

    /** Methods of sixty lines at most, lines of a hundred signs. */
    private static void lengths(String source) {
        String[] lines = source.split("\n");
        for (int i = 0; i < lines.length; i++) {
            due(lines[i].length() <= 100, "line " + (i + 1) + " is short");
            Matcher head = Pattern.compile("^( {4}| {8})[^ /*}].*\\) \\{$").matcher(lines[i]);
            if (head.find()) {
                String end = head.group(1) + "}";
                int length = 1;
                while (i + length < lines.length && !lines[i + length].equals(end)) {
                    length++;
                }
                due(length < 60, "the method in line " + (i + 1) + " is short");
            }
        }
    }
}
