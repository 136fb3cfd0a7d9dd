import java.lang.reflect.Constructor;
import java.lang.reflect.Field;
import java.lang.reflect.Method;
import java.lang.reflect.Modifier;
import java.nio.charset.StandardCharsets;
import java.nio.file.Files;
import java.nio.file.Path;
import java.util.Set;
import java.util.TreeSet;
import java.util.regex.Matcher;
import java.util.regex.Pattern;

/** The public face, and those rules of LANGUAGE.md that can be looked up in the class and its text. */
public final class FaceTest {
    private static final Due due = new Due("FaceTest");
    private static final Path SOURCE = Path.of("src/main/java/RegexSimplifier.java");

    private static final Set<String> METHODS = Set.of(
        "int size(long)", "int starHeight(long)", "int matchesEmptyWord(long)", "int countWords(long,int)",
        "int differenceLength(long,long)", "int differenceSymbol(long,long,int)",
        "int isApplicable(long,int,int)", "long rewrite(long,int,int)", "int firstPosition(long)",
        "int firstRule(long)", "int load(long)", "long current()", "int apply(int,int)", "int simplify()",
        "int undo(int)", "int stepCount()", "int stepRule(int)", "int stepPosition(int)",
        "int applicableCount()", "long smallest()", "int smallestDistance()", "int reachableCount()");

    private static final Set<String> CONSTANTS = Set.of(
        "MALFORMED", "NO_SUCH_RULE", "NO_SUCH_POSITION", "NOT_APPLICABLE", "OUT_OF_RANGE", "LIMIT_EXCEEDED", "NONE");

    public static void main(String[] args) throws Exception {
        face();
        nestedClasses();
        text();
        due.end();
    }

    private static void face() {
        Class<?> type = RegexSimplifier.class;
        due.holds("public and final", Modifier.isPublic(type.getModifiers()) && Modifier.isFinal(type.getModifiers()));
        Set<String> methods = new TreeSet<>();
        for (Method method : type.getDeclaredMethods()) {
            if (!Modifier.isPrivate(method.getModifiers())) {
                due.holds(method + " is public and no more", method.getModifiers() == Modifier.PUBLIC);
                methods.add(signature(method));
            }
        }
        due.holds("the methods of the document and no others: " + methods, methods.equals(METHODS));
        Set<String> constants = new TreeSet<>();
        for (Field field : type.getDeclaredFields()) {
            if (!Modifier.isPrivate(field.getModifiers())) {
                constants.add(field.getName());
                int wanted = Modifier.PUBLIC | Modifier.STATIC | Modifier.FINAL;
                due.holds(field + " is a constant", field.getModifiers() == wanted && field.getType() == int.class);
            }
        }
        due.holds("the constants of the document and no others: " + constants, constants.equals(CONSTANTS));
        Constructor<?>[] constructors = type.getDeclaredConstructors();
        due.is("constructors", constructors.length, 1);
        due.holds("a public constructor without parameters", constructors[0].getModifiers() == Modifier.PUBLIC
            && constructors[0].getParameterCount() == 0);
    }

    private static String signature(Method method) {
        StringBuilder text = new StringBuilder(method.getReturnType() + " " + method.getName() + "(");
        for (Class<?> parameter : method.getParameterTypes()) {
            text.append(text.charAt(text.length() - 1) == '(' ? "" : ",").append(parameter);
        }
        return text.append(")").toString();
    }

    private static void nestedClasses() {
        Class<?>[] nested = RegexSimplifier.class.getDeclaredClasses();
        due.holds("some twelve classes at most", nested.length < 12);
        checkMembers(RegexSimplifier.class);
        for (Class<?> type : nested) {
            int modifiers = type.getModifiers();
            due.holds(type + " is static", Modifier.isStatic(modifiers));
            due.holds(type + " is not public", !Modifier.isPublic(modifiers) && !Modifier.isProtected(modifiers));
            checkMembers(type);
        }
    }

    private static void checkMembers(Class<?> type) {
        int fields = 0;
        for (Field field : type.getDeclaredFields()) {
            boolean isStatic = Modifier.isStatic(field.getModifiers());
            fields += isStatic ? 0 : 1;
            due.holds(field + " is final if static", !isStatic || Modifier.isFinal(field.getModifiers()));
        }
        due.holds(type + " has some twenty fields at most", fields <= 20);
        for (Method method : type.getDeclaredMethods()) {
            due.holds(method + " has seven parameters at most", method.getParameterCount() <= 7);
            boolean named = METHODS.stream().anyMatch(face -> face.contains(" " + method.getName() + "("));
            due.holds(method + " bears no public name", Modifier.isPublic(method.getModifiers()) || !named);
        }
    }

    private static void text() throws Exception {
        String source = Files.readString(SOURCE, StandardCharsets.US_ASCII);
        String code = source.replaceAll("(?s)/\\*.*?\\*/", "").replaceAll("//.*", "");
        String[] words = {"throw", "throws", "try", "catch", "synchronized", "assert", "package", "volatile", "native",
            "transient", "protected", "double", "float", "Object", "Exception", "System.out", "Random", "Thread"};
        for (String word : words) {
            due.holds("no " + word, !Pattern.compile("\\b" + word + "\\b").matcher(code).find());
        }
        due.holds("no lambda and no method reference", !code.contains("->") && !code.contains("::"));
        due.holds("no function whose name ends in Exact", !code.contains("Exact"));
        Matcher imports = Pattern.compile("import ([^;]+);").matcher(code);
        while (imports.find()) {
            due.holds("import of " + imports.group(1), imports.group(1).equals("java.util.Arrays"));
        }
        Matcher fills = Pattern.compile("Arrays\\.(\\w+)").matcher(code);
        while (fills.find()) {
            due.holds("Arrays." + fills.group(1), Set.of("fill", "copyOf", "copyOfRange").contains(fills.group(1)));
        }
        shortMethods(source);
    }

    /** A method begins behind 4 or 8 spaces and ends with a brace behind as many. */
    private static void shortMethods(String source) {
        Matcher methods = Pattern.compile("(?ms)^( {4}| {8})(?! )[^\\n=;]*\\)[^\\n;]* \\{$.*?^\\1\\}$").matcher(source);
        int found = 0;
        while (methods.find()) {
            found++;
            long lines = methods.group().lines().count();
            due.holds("sixty lines at most: " + methods.group().lines().findFirst().get(), lines <= 60);
        }
        due.holds("methods are found in the text", found > 40);
    }
}
