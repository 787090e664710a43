import java.lang.reflect.Constructor;
import java.lang.reflect.Field;
import java.lang.reflect.Method;
import java.lang.reflect.Modifier;
import java.nio.charset.StandardCharsets;
import java.nio.file.Files;
import java.nio.file.Path;
import java.util.Set;
import java.util.TreeSet;
import java.util.regex.Matcher;
import java.util.regex.Pattern;

/** What can be checked of ../shared/LANGUAGE.md and of the public face from outside. */
public final class LanguageTest {
    private static final String FACE = "int feed(int,int,int,int,int);int end(int);int street();int fault(int);int run(int);"
            + "int car(int,int);int speed(int);int rope(int,int);int count(int);boolean strand(int,int);int strandNow(int);"
            + "boolean free(int);int splice(int,int);int due(int);int cost(int,int);int halt(int);int rolls();int trips(int);"
            + "int asks(int,int);int event(int,int);int coasts(int,int,int);int need(int);int takes();int head(int);"
            + "int spread(int,int);int power(int,int);int runaway(int,int);int order(int);int where(int,int,int);"
            + "int log(int,int,int);boolean untell(int);int later(int);int judge(int,int);int logged(int,int);int image(int);"
            + "int back(int);int about(int);";
    private static final Set<String> IMPORTS = Set.of("java.util.Arrays", "java.util.ArrayList", "java.util.List", "java.util.Iterator");
    private static final int MAX_METHOD_LINES = 60;
    private static final int MAX_CLASSES = 12;
    private static final int MAX_FIELDS = 20;

    private LanguageTest() {
    }

    public static void main(String[] args) throws Exception {
        face();
        classes();
        String code = Files.readString(Path.of(args[0]), StandardCharsets.US_ASCII);
        words(withoutTexts(code));
        methodLines(withoutTexts(code));
        Check.end();
    }

    private static void face() {
        Set<String> face = new TreeSet<>();
        for (Method m : CableStreet.class.getDeclaredMethods()) {
            if (Modifier.isPrivate(m.getModifiers())) {
                continue;
            }
            StringBuilder b = new StringBuilder(m.getReturnType().getName()).append(' ').append(m.getName()).append('(');
            for (Class<?> type : m.getParameterTypes()) {
                b.append(b.charAt(b.length() - 1) == '(' ? "" : ",").append(type.getName());
            }
            face.add(b.append(')').toString());
            Check.due(m + " is public", true, Modifier.isPublic(m.getModifiers()) && !Modifier.isStatic(m.getModifiers()));
        }
        Check.due("the face is as told: " + face, true, face.equals(Set.of(FACE.split(";"))));
        Check.due("the class is public and final", Modifier.PUBLIC | Modifier.FINAL, CableStreet.class.getModifiers());
        Constructor<?>[] constructors = CableStreet.class.getDeclaredConstructors();
        Check.due("constructors", 1, constructors.length);
        Check.due("public, without arguments", true,
                Modifier.isPublic(constructors[0].getModifiers()) && constructors[0].getParameterCount() == 0);
        for (Field f : CableStreet.class.getDeclaredFields()) {
            Check.due(f + " is private", !f.getName().equals("NONE"), Modifier.isPrivate(f.getModifiers()));
        }
        Check.due("NONE", -1, CableStreet.NONE);
    }

    private static void classes() {
        Set<String> publicNames = new TreeSet<>();
        for (Method m : CableStreet.class.getDeclaredMethods()) {
            if (Modifier.isPublic(m.getModifiers())) {
                publicNames.add(m.getName());
            }
        }
        Class<?>[] inside = CableStreet.class.getDeclaredClasses();
        Check.due("few classes", true, inside.length < MAX_CLASSES);
        for (Class<?> c : inside) {
            Check.due(c + " is static", true, Modifier.isStatic(c.getModifiers()) && !Modifier.isPublic(c.getModifiers()));
            for (Method m : c.getDeclaredMethods()) {
                Check.due(m + " bears a name of its own", false, publicNames.contains(m.getName()));
                Check.due(m + " takes few", true, m.getParameterCount() <= 7);
            }
            for (Constructor<?> constructor : c.getDeclaredConstructors()) {
                Check.due(constructor + " is handed something", 0, constructor.getParameterCount());
            }
            fields(c);
        }
        fields(CableStreet.class);
    }

    private static void fields(Class<?> c) {
        int number = 0;
        for (Field f : c.getDeclaredFields()) {
            boolean fixed = Modifier.isStatic(f.getModifiers());
            Check.due(f + " is final, if static", true, !fixed || Modifier.isFinal(f.getModifiers()));
            number += fixed ? 0 : 1;
        }
        Check.due(c + " has few fields", true, number <= MAX_FIELDS);
    }

    private static String withoutTexts(String code) {
        return code.replaceAll("\"[^\"\n]*\"", "\"\"").replaceAll("(?s)/\\*.*?\\*/", "").replaceAll("//[^\n]*", "");
    }

    private static void words(String code) {
        String[] banned = {"throw", "throws", "try", "catch", "finally", "synchronized", "assert", "transient", "volatile",
            "native", "protected", "Object", "Exception", "Error", "RuntimeException", "System.out", "System.nanoTime",
            "System.currentTimeMillis", "Random", "Thread", "hashCode"};
        for (String word : banned) {
            Matcher m = Pattern.compile("\\b" + Pattern.quote(word) + "\\b").matcher(code);
            Check.due("the word " + word, false, m.find());
        }
        Check.due("lambdas", false, code.contains("->"));
        Check.due("method references", false, code.contains("::"));
        Matcher imports = Pattern.compile("import ([^;]*);").matcher(code);
        while (imports.find()) {
            Check.due("import " + imports.group(1), true, IMPORTS.contains(imports.group(1)));
        }
        Check.due("package line", false, code.startsWith("package"));
    }

    /** A method begins at 4 or 8 blanks with its brace, and ends with a brace at as many. */
    private static void methodLines(String code) {
        Pattern begin = Pattern.compile("^( {4}| {8})[a-zA-Z].*\\) \\{$");
        String[] lines = code.split("\n");
        for (int i = 0; i < lines.length; i++) {
            Matcher m = begin.matcher(lines[i]);
            if (m.matches()) {
                int end = i;
                while (end < lines.length && !lines[end].equals(m.group(1) + "}")) {
                    end++;
                }
                Check.due("short: " + lines[i].trim(), true, end - i < MAX_METHOD_LINES);
            }
        }
    }
}
