import java.lang.reflect.Constructor;
import java.lang.reflect.Field;
import java.lang.reflect.Method;
import java.lang.reflect.Modifier;
import java.lang.reflect.Parameter;
import java.nio.charset.StandardCharsets;
import java.nio.file.Files;
import java.nio.file.Path;
import java.util.List;
import java.util.Set;
import java.util.StringJoiner;
import java.util.TreeSet;
import java.util.regex.Matcher;
import java.util.regex.Pattern;

/** The public face, and those rules of LANGUAGE.md that can be looked up in the class and its text. */
public final class FaceTest {
    private static final Due due = new Due("FaceTest");
    private static final Path SOURCE = Path.of("src/main/java/RegexSimplifier.java");

    private static final String CLASS_LINE = "public final class RegexSimplifier {";

    /** As the document has them and in its order: the first one is promise 2. */
    private static final List<String> METHODS = List.of(
        "int size(long regex)", "int starHeight(long regex)", "int matchesEmptyWord(long regex)",
        "int countWords(long regex, int length)", "int differenceLength(long first, long second)",
        "int differenceSymbol(long first, long second, int index)",
        "int isApplicable(long regex, int rule, int position)", "long rewrite(long regex, int rule, int position)",
        "int firstPosition(long regex)", "int firstRule(long regex)", "int load(long regex)", "long current()",
        "int apply(int rule, int position)", "int simplify()", "int undo(int count)", "int stepCount()",
        "int stepRule(int index)", "int stepPosition(int index)", "int applicableCount()", "long smallest()",
        "int smallestDistance()", "int reachableCount()");

    private static final List<String> CONSTANTS = List.of(
        "MALFORMED = -1", "NO_SUCH_RULE = -2", "NO_SUCH_POSITION = -3", "NOT_APPLICABLE = -4", "OUT_OF_RANGE = -5",
        "LIMIT_EXCEEDED = -6", "NONE = -9");

    public static void main(String[] args) throws Exception {
        nestedClasses();
        text();
        classLine();
        constants();
        constructor();
        methods();
        due.end();
    }

    private static void classLine() {
        due.sentence("The public face", CLASS_LINE);
        int modifiers = RegexSimplifier.class.getModifiers();
        due.holds("public and final and no more", modifiers == (Modifier.PUBLIC | Modifier.FINAL));
        due.holds("without a package", RegexSimplifier.class.getName().equals("RegexSimplifier"));
        due.holds("above it only what every class has", RegexSimplifier.class.getSuperclass() == Object.class
            && RegexSimplifier.class.getInterfaces().length == 0);
    }

    private static void constants() throws Exception {
        Set<String> wanted = new TreeSet<>();
        for (String constant : CONSTANTS) {
            String[] parts = constant.split(" = ");
            wanted.add(parts[0]);
            due.sentence("The public face", "public static final int " + constant + ";");
            Field field = RegexSimplifier.class.getDeclaredField(parts[0]);
            int modifiers = Modifier.PUBLIC | Modifier.STATIC | Modifier.FINAL;
            due.holds(field + " is a constant", field.getModifiers() == modifiers && field.getType() == int.class);
            due.is(parts[0], field.getInt(null), Long.parseLong(parts[1]));
        }
        Set<String> found = new TreeSet<>();
        for (Field field : RegexSimplifier.class.getDeclaredFields()) {
            if (!Modifier.isPrivate(field.getModifiers())) {
                found.add(field.getName());
            }
        }
        due.sentence("The public face", CLASS_LINE);
        due.holds("these constants and no others: " + found, found.equals(wanted));
    }

    private static void constructor() {
        String[][] sentences = {{"The public face", "public RegexSimplifier();"}, {"Promise 1", "`RegexSimplifier()`"}};
        for (String[] sentence : sentences) {
            due.sentence(sentence[0], sentence[1]);
            Constructor<?>[] constructors = RegexSimplifier.class.getDeclaredConstructors();
            due.is("constructors", constructors.length, 1);
            due.holds("public and without parameters", constructors[0].getModifiers() == Modifier.PUBLIC
                && constructors[0].getParameterCount() == 0 && constructors[0].getExceptionTypes().length == 0);
        }
    }

    private static void methods() {
        due.sentence("The public face", CLASS_LINE);
        Set<String> found = methodsFound();
        due.holds("these methods and no others: " + found, found.equals(new TreeSet<>(METHODS)));
        for (int index = 0; index < METHODS.size(); index++) {
            String method = METHODS.get(index);
            due.sentence("The public face", "public " + method + ";");
            due.holds("a public method " + method, found.contains(method));
            due.sentence("Promise " + (index + 2), "`" + method + "`");
            due.holds("a public method " + method, found.contains(method));
        }
    }

    /** The names of the parameters are known because .ci/run compiles with -parameters. */
    private static Set<String> methodsFound() {
        Set<String> found = new TreeSet<>();
        for (Method method : RegexSimplifier.class.getDeclaredMethods()) {
            if (Modifier.isPrivate(method.getModifiers())) {
                continue;
            }
            due.holds(method + " is public and no more", method.getModifiers() == Modifier.PUBLIC);
            due.is("exceptions of " + method, method.getExceptionTypes().length, 0);
            StringJoiner parameters = new StringJoiner(", ", "(", ")");
            for (Parameter parameter : method.getParameters()) {
                parameters.add(parameter.getType() + " " + parameter.getName());
            }
            found.add(method.getReturnType() + " " + method.getName() + parameters);
        }
        return found;
    }

    private static void nestedClasses() {
        Class<?>[] nested = RegexSimplifier.class.getDeclaredClasses();
        due.holds("some twelve classes at most", nested.length < 12);
        checkMembers(RegexSimplifier.class);
        for (Class<?> type : nested) {
            int modifiers = type.getModifiers();
            due.holds(type + " is static", Modifier.isStatic(modifiers));
            due.holds(type + " is not public", !Modifier.isPublic(modifiers) && !Modifier.isProtected(modifiers));
            checkMembers(type);
        }
    }

    private static void checkMembers(Class<?> type) {
        int fields = 0;
        for (Field field : type.getDeclaredFields()) {
            boolean isStatic = Modifier.isStatic(field.getModifiers());
            fields += isStatic ? 0 : 1;
            due.holds(field + " is final if static", !isStatic || Modifier.isFinal(field.getModifiers()));
        }
        due.holds(type + " has some twenty fields at most", fields <= 20);
        for (Method method : type.getDeclaredMethods()) {
            due.holds(method + " has seven parameters at most", method.getParameterCount() <= 7);
            boolean named = METHODS.stream().anyMatch(face -> face.contains(" " + method.getName() + "("));
            due.holds(method + " bears no public name", Modifier.isPublic(method.getModifiers()) || !named);
        }
    }

    private static void text() throws Exception {
        String source = Files.readString(SOURCE, StandardCharsets.US_ASCII);
        String code = source.replaceAll("(?s)/\\*.*?\\*/", "").replaceAll("//.*", "");
        String[] words = {"throw", "throws", "try", "catch", "synchronized", "assert", "package", "volatile", "native",
            "transient", "protected", "double", "float", "Object", "Exception", "System.out", "Random", "Thread"};
        for (String word : words) {
            due.holds("no " + word, !Pattern.compile("\\b" + word + "\\b").matcher(code).find());
        }
        due.holds("no lambda and no method reference", !code.contains("->") && !code.contains("::"));
        due.holds("no function whose name ends in Exact", !code.contains("Exact"));
        Matcher imports = Pattern.compile("import ([^;]+);").matcher(code);
        while (imports.find()) {
            due.holds("import of " + imports.group(1), imports.group(1).equals("java.util.Arrays"));
        }
        Matcher fills = Pattern.compile("Arrays\\.(\\w+)").matcher(code);
        while (fills.find()) {
            due.holds("Arrays." + fills.group(1), Set.of("fill", "copyOf", "copyOfRange").contains(fills.group(1)));
        }
        shortMethods(source);
    }

    /** A method begins behind 4 or 8 spaces and ends with a brace behind as many. */
    private static void shortMethods(String source) {
        Matcher methods = Pattern.compile("(?ms)^( {4}| {8})(?! )[^\\n=;]*\\)[^\\n;]* \\{$.*?^\\1\\}$").matcher(source);
        int found = 0;
        while (methods.find()) {
            found++;
            long lines = methods.group().lines().count();
            due.holds("sixty lines at most: " + methods.group().lines().findFirst().get(), lines <= 60);
        }
        due.holds("methods are found in the text", found > 40);
    }
}
