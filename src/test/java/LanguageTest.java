import java.lang.reflect.Constructor;
import java.lang.reflect.Field;
import java.lang.reflect.Method;
import java.lang.reflect.Modifier;
import java.nio.file.Files;
import java.nio.file.Path;
import java.util.ArrayList;
import java.util.HashSet;
import java.util.List;
import java.util.Set;
import java.util.TreeSet;
import java.util.regex.Matcher;
import java.util.regex.Pattern;

/** What of ../shared/LANGUAGE.md can be seen by reading the source and looking at the class. */
public final class LanguageTest {
    private static final Path SOURCE = Path.of("src/main/java/NeedsALoser.java");
    private static final Path DOCUMENT = Path.of("../shared/DOC.md");
    private static int wrong = 0;

    public static void main(String[] args) throws Exception {
        String source = Files.readString(SOURCE);
        words(withoutTexts(source));
        face(Files.readString(DOCUMENT));
        classes();
        methods(withoutTexts(source));
        System.out.println(wrong == 0 ? "the language is kept to" : wrong + " faults of language");
        if (wrong != 0) {
            System.exit(1);
        }
    }

    private static void check(boolean is, String fault) {
        if (!is) {
            wrong++;
            System.out.println(fault);
        }
    }

    private static String withoutTexts(String source) {
        String code = source.replaceAll("(?s)/\\*.*?\\*/", " ").replaceAll("//[^\n]*", " ");
        return code.replaceAll("\"[^\"]*\"", "\"\"").replaceAll("'[^']'", "' '");
    }

    private static void words(String code) {
        String[] none = {"throw", "throws", "try", "catch", "finally", "synchronized", "assert", "import", "package",
            "enum", "record", "var", "yield", "equals", "hashCode", "toString", "native", "volatile", "transient"};
        for (String word : none) {
            check(!Pattern.compile("\\b" + word + "\\b").matcher(code).find(), "rule 4 or 6: the word " + word);
        }
        check(!code.contains("->") && !code.contains("::"), "rule 2: a lambda or a method reference");
        check(!code.contains("Exact"), "rule 4: a function in Exact");
        check(!code.contains("\"\" +") && !code.contains("+ \"\""), "rule 10: texts joined by +");
        check(code.chars().allMatch(c -> c < 128), "rule 4: a sign beyond 127");
        check(!Pattern.compile("static\\s*\\{").matcher(code).find(), "rule 5: a static initialiser block");
    }

    /** The public face is the document's, member for member. */
    private static void face(String document) {
        int from = document.indexOf("public final class NeedsALoser");
        String face = document.substring(from, document.indexOf("```", from));
        Set<String> due = new TreeSet<>();
        Matcher matcher = Pattern.compile("public (int|long) (\\w+)\\(([^)]*)\\);").matcher(face);
        while (matcher.find()) {
            due.add(matcher.group(1) + " " + matcher.group(2) + "(" + matcher.group(3).replaceAll(" \\w+(,|$)", "$1")
                    .replace(" ", "") + ")");
        }
        check(due.size() == 57, "the document's face has " + due.size() + " methods");
        Set<String> are = new TreeSet<>();
        Class<?> main = NeedsALoser.class;
        for (Method method : main.getDeclaredMethods()) {
            if (!Modifier.isPrivate(method.getModifiers())) {
                StringBuilder types = new StringBuilder();
                for (Class<?> type : method.getParameterTypes()) {
                    types.append(types.length() == 0 ? "" : ",").append(type.getName());
                }
                are.add(method.getReturnType().getName() + " " + method.getName() + "(" + types + ")");
            }
        }
        check(are.equals(due), "rule 1: the face is " + are + ", due is " + due);
        for (Field field : main.getDeclaredFields()) {
            boolean isNone = field.getName().equals("NONE");
            check(isNone == !Modifier.isPrivate(field.getModifiers()), "rule 1: the field " + field);
        }
        Constructor<?>[] constructors = main.getDeclaredConstructors();
        check(constructors.length == 1 && constructors[0].getParameterCount() == 0
                && Modifier.isPublic(constructors[0].getModifiers()), "rule 1: the constructor");
        check(Modifier.isFinal(main.getModifiers()), "rule 1: the class is final");
    }

    private static void classes() {
        List<Class<?>> all = new ArrayList<>(List.of(NeedsALoser.class.getDeclaredClasses()));
        check(all.size() < 12, "rule 11: " + all.size() + " classes inside");
        Set<String> open = new HashSet<>();
        for (Method method : NeedsALoser.class.getMethods()) {
            open.add(method.getName());
        }
        for (Class<?> inside : all) {
            check(Modifier.isStatic(inside.getModifiers()) && !Modifier.isPublic(inside.getModifiers())
                    && !Modifier.isProtected(inside.getModifiers()), "rules 1, 2: " + inside);
        }
        all.add(NeedsALoser.class);
        for (Class<?> one : all) {
            int fields = 0;
            for (Field field : one.getDeclaredFields()) {
                boolean isStatic = Modifier.isStatic(field.getModifiers());
                check(!isStatic || Modifier.isFinal(field.getModifiers()), "rule 5: " + field);
                fields += isStatic ? 0 : 1;
            }
            check(fields <= 20, "rule 11: " + fields + " fields in " + one);
            for (Method method : one.getDeclaredMethods()) {
                boolean isFace = one == NeedsALoser.class && Modifier.isPublic(method.getModifiers());
                check(isFace || !open.contains(method.getName()), "rule 1: the name of " + method);
                check(method.getParameterCount() <= 7, "rule 11: the parameters of " + method);
            }
        }
    }

    /** No method is longer than sixty lines, no line than 120 signs. */
    private static void methods(String code) {
        int start = 0;
        int line = 0;
        String indent = null;
        for (String text : code.split("\n", -1)) {
            line++;
            check(text.length() <= 120, "a long line: " + line);
            if (indent == null && text.matches(" +[\\w\\[\\] ]+\\([^;]*\\) \\{") && !text.matches(" +(if|for|while|switch|else)\\b.*")) {
                indent = text.substring(0, text.length() - text.stripLeading().length());
                start = line;
            } else if (indent != null && text.equals(indent + "}")) {
                check(line - start <= 60, "rule 11: the method in line " + start + " has " + (line - start) + " lines");
                indent = null;
            }
        }
    }
}
