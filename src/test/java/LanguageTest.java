import java.io.IOException;
import java.lang.reflect.Constructor;
import java.lang.reflect.Field;
import java.lang.reflect.Method;
import java.lang.reflect.Modifier;
import java.nio.file.Files;
import java.nio.file.Path;
import java.util.ArrayList;
import java.util.Arrays;
import java.util.List;
import java.util.Set;
import java.util.TreeSet;
import java.util.regex.Matcher;
import java.util.regex.Pattern;

/** "The public face", the constants, and those rules of LANGUAGE.md that can be seen from the class and its text. */
public final class LanguageTest {
    private static final Path SOURCE = Path.of("src", "main", "java", "StripMachine.java");
    private static final String INDEX = " throws java.lang.IndexOutOfBoundsException";
    private static final String[] FACE = {
        "public int StripMachine.step(int)",
        "public void StripMachine.choose(long)",
        "public int StripMachine.x(int)" + INDEX,
        "public void StripMachine.setX(int,int)" + INDEX,
        "public int StripMachine.v(int)" + INDEX,
        "public void StripMachine.setV(int,int)" + INDEX,
        "public int StripMachine.word(int)" + INDEX,
        "public void StripMachine.setWord(int,int)" + INDEX,
        "public void StripMachine.shut(int,boolean)" + INDEX,
        "public int StripMachine.state(int)",
        "public boolean StripMachine.setState(int,int)",
        "public int StripMachine.sum()",
    };
    private static final Set<Class<?>> CONSTANTS = Set.of(
        int.class, long.class, boolean.class, char.class, String.class, int[].class, long[].class, char[].class, byte[].class);
    private static final Set<Class<?>> NUMBERS = Set.of(
        int.class, long.class, short.class, byte.class, char.class, boolean.class);
    // Words and signs that the program has no need of, and that rules 2, 4, 6, 8, 9, 12 and 13 forbid or bind.
    private static final String[] ABSENT = {
        "import", "package", "synchronized", "assert", "finally", "try", "catch", "while", "do", "native", "volatile",
        "transient", "double", "float", "hashCode", "equals", "toString", "clone", "System", "Thread", "Runtime", "Object",
        "protected", "extends", "implements", "super", "java", "javax", "->", "::",
    };
    private static final int MOST_PARAMETERS = 7;
    private static final int MOST_LINES = 60;
    private static final int MOST_CLASSES = 12;
    private static final int MOST_FIELDS = 20;

    private LanguageTest() {
    }

    public static void main(String[] args) throws IOException {
        face();
        List<Class<?>> classes = new ArrayList<>(Arrays.asList(StripMachine.class.getDeclaredClasses()));
        classes.forEach(LanguageTest::nested);
        classes.add(0, StripMachine.class);
        Check.due("rule 11: at most some twelve classes", classes.size() <= MOST_CLASSES, true);
        for (Class<?> one : classes) {
            fields(one);
            methods(one);
        }
        String text = withoutComments(Files.readString(SOURCE));
        absent(text);
        exceptions(text);
        loops(text);
        lengths(text);
        Check.end();
    }

    private static void face() {
        int modifiers = StripMachine.class.getModifiers();
        Check.due("the class is public and final", Modifier.isPublic(modifiers) && Modifier.isFinal(modifiers), true);
        Set<String> open = new TreeSet<>();
        for (Method method : StripMachine.class.getDeclaredMethods()) {
            if (!Modifier.isPrivate(method.getModifiers())) {
                open.add(method.toString());
            }
        }
        for (String due : FACE) {
            Check.due("the face has " + due, open.remove(due), true);
        }
        Check.due("rule 1: no other member: " + open, open.size(), 0);
        Constructor<?>[] constructors = StripMachine.class.getDeclaredConstructors();
        Check.due("the face has one constructor", constructors.length, 1);
        Check.due("it is public StripMachine()", constructors[0].toString().equals("public StripMachine()"), true);
        for (Field field : StripMachine.class.getDeclaredFields()) {
            boolean isNone = field.toString().equals("public static final int StripMachine.NONE");
            Check.due("rule 1: " + field, isNone || Modifier.isPrivate(field.getModifiers()), true);
        }
        Check.due("NONE = -1", StripMachine.NONE, -1);
    }

    private static void nested(Class<?> one) {
        int modifiers = one.getModifiers();
        boolean isHidden = !Modifier.isPublic(modifiers) && !Modifier.isProtected(modifiers);
        Check.due("rule 1: " + one + " is private or package-visible", isHidden, true);
        Check.due("rule 1: " + one + " is static", Modifier.isStatic(modifiers), true);
        Check.due("rule 2: " + one + " has no classes of its own", one.getDeclaredClasses().length, 0);
    }

    private static void fields(Class<?> one) {
        int own = 0;
        for (Field field : one.getDeclaredFields()) {
            boolean isStatic = Modifier.isStatic(field.getModifiers());
            own += isStatic ? 0 : 1;
            boolean isFinal = Modifier.isFinal(field.getModifiers());
            Check.due("rule 5: " + field, !isStatic || isFinal && CONSTANTS.contains(field.getType()), true);
            Check.due("rule 3: " + field, isStatic || isKnown(field.getType()), true);
        }
        Check.due("rule 11: fields of " + one, own <= MOST_FIELDS, true);
    }

    private static boolean isKnown(Class<?> type) {
        Class<?> single = type.isArray() ? type.getComponentType() : type;
        return NUMBERS.contains(single) || single.getNestHost() == StripMachine.class;
    }

    private static void methods(Class<?> one) {
        for (Method method : one.getDeclaredMethods()) {
            Check.due("rule 11: parameters of " + method, method.getParameterCount() <= MOST_PARAMETERS, true);
            boolean isOfFace = Arrays.stream(FACE).anyMatch(row -> row.contains("." + method.getName() + "("));
            boolean isFace = one == StripMachine.class && Modifier.isPublic(method.getModifiers());
            Check.due("rule 1: the name of " + method, isFace || !isOfFace, true);
        }
    }

    private static String withoutComments(String text) {
        String plain = text.replaceAll("(?s)/\\*.*?\\*/", "").replaceAll("//[^\n]*", "");
        return plain.replaceAll("\"[^\"\n]*\"", "\"\"");
    }

    private static void absent(String text) {
        for (String word : ABSENT) {
            boolean isWord = Character.isLetter(word.charAt(0));
            Pattern pattern = Pattern.compile(isWord ? "\\b" + word + "\\b" : Pattern.quote(word));
            Check.due("no '" + word + "' stands in the program", pattern.matcher(text).find(), false);
        }
        Check.due("rule 5: no static initialiser block", Pattern.compile("\\bstatic\\s*\\{").matcher(text).find(), false);
        Matcher library = Pattern.compile("\\b(Math|Integer|Long|Arrays)\\.(\\w+)").matcher(text);
        while (library.find()) {
            Check.due("rule 4: " + library.group(), library.group().matches("Math\\.(min|max)"), true);
        }
    }

    /** Rule 6, and that the document asks for one kind of exception alone. */
    private static void exceptions(String text) {
        Matcher thrown = Pattern.compile("\\bthrow\\b[^;]*;").matcher(text);
        while (thrown.find()) {
            boolean isIndex = thrown.group().equals("throw new IndexOutOfBoundsException(\"\");");
            Check.due("rule 6: " + thrown.group(), isIndex, true);
        }
    }

    /** Rule 9: every loop is a counter against a bound, which its own line shows. */
    private static void loops(String text) {
        Matcher loop = Pattern.compile("\\bfor \\(.*").matcher(text);
        while (loop.find()) {
            boolean isCounted = loop.group().matches("for \\(int (\\w) = [^;]+; \\1 < [^;]+; \\1\\+\\+\\) \\{");
            Check.due("rule 9: " + loop.group(), isCounted, true);
        }
    }

    /** Rule 11: from a method's head to the brace that stands below it. */
    private static void lengths(String text) {
        String[] lines = text.split("\n");
        Pattern head = Pattern.compile("( {4}| {8})(?! )(?!private static final class).*\\(.*\\).* \\{");
        int methods = 0;
        for (int from = 0; from < lines.length; from++) {
            Matcher matcher = head.matcher(lines[from]);
            if (!matcher.matches() || !isMemberAt(lines, from, matcher.group(1))) {
                continue;
            }
            int to = from;
            while (!lines[to].equals(matcher.group(1) + "}")) {
                to++;
            }
            methods++;
            Check.due("rule 11: lines of " + lines[from].trim(), to - from + 1 <= MOST_LINES, true);
        }
        Check.due("methods are found in the text", methods > 100, true);
    }

    /** Lines with eight spaces are heads inside of a nested class, statements inside of a method of the outer one. */
    private static boolean isMemberAt(String[] lines, int at, String indent) {
        if (indent.length() == 4) {
            return true;
        }
        int above = at;
        while (above > 0 && !lines[above].matches(" {4}[^ }].*\\{")) {
            above--;
        }
        return lines[above].contains(" class ");
    }
}
