import java.io.IOException;
import java.lang.reflect.Constructor;
import java.lang.reflect.Executable;
import java.lang.reflect.Field;
import java.lang.reflect.Member;
import java.lang.reflect.Method;
import java.lang.reflect.Modifier;
import java.nio.file.Files;
import java.nio.file.Path;
import java.util.ArrayList;
import java.util.List;
import java.util.Set;
import java.util.TreeSet;
import java.util.regex.Pattern;
import java.util.stream.Collectors;
import java.util.stream.Stream;

/** The public face, and what can be seen of ../shared/LANGUAGE.md in the source and in the classes. */
public final class LanguageTest {
    private static final int MOST_CLASSES = 12;
    private static final int MOST_FIELDS = 20;
    private static final int MOST_PARAMETERS = 7;
    private static final int MOST_LINES = 60;
    private static final Set<String> LIBRARY = Set.of("Arrays.copyOf", "Arrays.fill", "Math.min", "Math.max", "System.arraycopy");
    private static final Pattern FORBIDDEN = Pattern.compile(
            "\\b(throw|throws|try|catch|synchronized|assert|native|volatile|transient|equals|hashCode|toString|Thread|Object"
            + "|protected|float|double|strictfp|super)\\b|::|[^=]-> |@");
    private static final Pattern LIBRARY_CALL = Pattern.compile("\\b(Arrays|Math|System|Integer|Long|String|StringBuilder|List|ArrayList)\\.\\w+");
    private static String code;
    private static List<Class<?>> classes;

    public static void main(String[] args) throws IOException {
        String source = Files.readString(Path.of("src/main/java/ProofDesk.java"));
        code = source.replaceAll("(?s)/\\*.*?\\*/", "").replaceAll("//[^\n]*", "").replaceAll("\"[^\"]*\"", "\"\"");
        classes = new ArrayList<>(List.of(ProofDesk.class.getDeclaredClasses()));
        face();
        insideClasses();
        fields();
        parameters();
        words();
        methodsAreShort();
        Bench.close("LanguageTest");
    }

    private static void face() {
        Set<String> there = new TreeSet<>();
        for (Method method : ProofDesk.class.getDeclaredMethods()) {
            if (Modifier.isPublic(method.getModifiers())) {
                there.add(told(method));
            }
        }
        Set<String> due = new TreeSet<>(List.of(
                "public int feed(int, int, int, int, int)", "public int end(int)", "public int fuel(int)",
                "public int verdict(int, int)", "public int paper()", "public int printed(int)", "public int tear()",
                "public int globals()", "public int find(int)", "public int about(int, int)",
                "public boolean leans(int, int)", "public int show(int)", "public int forget(int)"));
        Bench.due("the methods", there.toString(), due.toString());
        Bench.due("the class", Modifier.toString(ProofDesk.class.getModifiers()), "public final");
        Bench.due("its package", ProofDesk.class.getPackageName(), "");
        Constructor<?>[] constructors = ProofDesk.class.getDeclaredConstructors();
        Bench.due("its constructors", constructors.length == 1 ? told(constructors[0]) : "several", "public ProofDesk()");
        Stream.of(ProofDesk.class.getDeclaredFields(), ProofDesk.class.getDeclaredMethods()).flatMap(Stream::of)
                .map(Member.class::cast).filter(member -> !member.isSynthetic()).forEach(LanguageTest::isOfTheFaceOrPrivate);
    }

    private static String told(Executable executable) {
        String types = Stream.of(executable.getParameterTypes()).map(Class::getName).collect(Collectors.joining(", "));
        String answer = executable instanceof Method ? ((Method) executable).getReturnType() + " " : "";
        return Modifier.toString(executable.getModifiers()) + " " + answer + executable.getName() + "(" + types + ")";
    }

    private static void isOfTheFaceOrPrivate(Member member) {
        int modifiers = member.getModifiers();
        boolean ofTheFace = member instanceof Method || member.getName().equals("NONE");
        Bench.due(member + " is public in the document or else private", Modifier.isPrivate(modifiers)
                || (Modifier.isPublic(modifiers) && ofTheFace), true);
    }

    private static void insideClasses() {
        Bench.due("so many classes are fine", classes.size() + 1 <= MOST_CLASSES, true);
        for (Class<?> inside : classes) {
            int modifiers = inside.getModifiers();
            Bench.due(inside + " is private and static", Modifier.isPrivate(modifiers) && Modifier.isStatic(modifiers), true);
            Bench.due(inside + " has no classes inside it", inside.getDeclaredClasses().length, 0);
        }
        classes.add(ProofDesk.class);
    }

    private static void fields() {
        for (Class<?> one : classes) {
            int own = 0;
            for (Field field : one.getDeclaredFields()) {
                if (Modifier.isStatic(field.getModifiers())) {
                    boolean constant = field.getType().isPrimitive() || field.getType() == String.class;
                    Bench.due(field + " is a constant", constant && Modifier.isFinal(field.getModifiers()), true);
                } else {
                    own++;
                }
            }
            Bench.due(one + ": so many fields are fine", own <= MOST_FIELDS, true);
        }
    }

    private static void parameters() {
        Set<String> publicNames = Stream.of(ProofDesk.class.getDeclaredMethods())
                .filter(method -> Modifier.isPublic(method.getModifiers())).map(Method::getName).collect(Collectors.toSet());
        for (Class<?> one : classes) {
            for (Method method : one.getDeclaredMethods()) {
                Bench.due(method + ": so many parameters are fine", method.getParameterCount() <= MOST_PARAMETERS, true);
                boolean hidden = !Modifier.isPublic(method.getModifiers());
                Bench.due(method + " bears a name of its own", hidden && publicNames.contains(method.getName()), false);
            }
        }
    }

    private static void words() {
        Bench.due("the imports", code.lines().filter(line -> line.startsWith("import")).collect(Collectors.joining()), "import java.util.Arrays;");
        Bench.due("what is forbidden", FORBIDDEN.matcher(code).results().map(found -> found.group()).collect(Collectors.joining(" ")), "");
        Set<String> used = LIBRARY_CALL.matcher(code).results().map(found -> found.group()).collect(Collectors.toCollection(TreeSet::new));
        used.removeAll(LIBRARY);
        Bench.due("calls of the library that are not in its list", used.toString(), "[]");
    }

    /** A method of a class inside begins and ends with eight blanks, one of the desk itself with four. */
    private static void methodsAreShort() {
        List<String> lines = code.lines().collect(Collectors.toList());
        for (int start = 0; start < lines.size(); start++) {
            if (lines.get(start).matches(" {4}(?: {4})?\\w[^=;]*\\) \\{")) {
                String end = lines.get(start).replaceAll("\\S.*", "}");
                int length = lines.subList(start, lines.size()).indexOf(end) + 1;
                Bench.due(lines.get(start) + " has so many lines", length > 0 && length <= MOST_LINES, true);
            }
        }
    }
}
