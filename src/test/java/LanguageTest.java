import java.io.IOException;
import java.lang.reflect.Constructor;
import java.lang.reflect.Field;
import java.lang.reflect.Method;
import java.lang.reflect.Modifier;
import java.nio.file.Files;
import java.nio.file.Path;
import java.util.Arrays;
import java.util.List;
import java.util.Set;
import java.util.TreeSet;
import java.util.regex.Matcher;
import java.util.regex.Pattern;

/** Rules of LANGUAGE.md that can be seen from outside: the face, the words that are left out, sizes, what is made. */
public final class LanguageTest {
    private static final String[] FACE = {"append", "appear", "ask", "blocker", "check", "clearBuffer", "count",
        "digest", "drain", "fairness", "firstError", "give", "giveUp", "ifAsked", "ifPassed", "owner", "pass", "place",
        "run", "set", "setting", "sicken", "undo", "waitsFor"};
    private static final String[] LEFT_OUT = {"import ", "package ", "->", "::", "finally", "synchronized", "assert ",
        "catch", "instanceof", "Exact(", "Double.", "System.out", "native ", "volatile ", "transient "};

    private static final List<String> LIBRARY = List.of("Math.max", "Math.min", "System.arraycopy");
    private static final int MOST_CLASSES = 12;
    private static final int MOST_LINES = 60;

    public static void main(String[] args) throws IOException {
        String text = Files.readString(Path.of("src/main/java/PoolTurns.java"));
        String code = withoutComments(text);
        face();
        classes(PoolTurns.class);
        for (Class<?> inside : PoolTurns.class.getDeclaredClasses()) {
            classes(inside);
        }
        need(PoolTurns.class.getDeclaredClasses().length < MOST_CLASSES, "too many classes");
        words(text);
        library(code);
        makesNothing(code);
        shortMethods(text);
        Due.end();
    }

    private static String withoutComments(String text) {
        return text.replaceAll("(?s)/\\*.*?\\*/", "").replaceAll("//.*", "");
    }

    private static void face() {
        Set<String> open = new TreeSet<>();
        for (Method method : PoolTurns.class.getDeclaredMethods()) {
            if (!Modifier.isPrivate(method.getModifiers())) {
                open.add(method.getName());
            }
        }
        need(open.equals(new TreeSet<>(Arrays.asList(FACE))), "the methods of the face are " + open);
        for (Field field : PoolTurns.class.getDeclaredFields()) {
            boolean isConstant = field.getName().equals("NONE");
            need(isConstant || Modifier.isPrivate(field.getModifiers()), "not private: " + field);
        }
        need(Modifier.isFinal(PoolTurns.class.getModifiers()), "the class is not final");
        Constructor<?>[] constructors = PoolTurns.class.getDeclaredConstructors();
        need(constructors.length == 1 && Modifier.isPublic(constructors[0].getModifiers()), "the constructors");
    }

    private static void classes(Class<?> one) {
        Set<String> face = new TreeSet<>(Arrays.asList(FACE));
        int fields = 0;
        for (Field field : one.getDeclaredFields()) {
            boolean isStatic = Modifier.isStatic(field.getModifiers());
            need(!isStatic || Modifier.isFinal(field.getModifiers()), "static and not final: " + field);
            fields += isStatic ? 0 : 1;
        }
        need(fields <= 20, "too many fields: " + one);
        for (Method method : one.getDeclaredMethods()) {
            need(method.getParameterCount() <= 7, "too many parameters: " + method);
            boolean isPrivate = one != PoolTurns.class || Modifier.isPrivate(method.getModifiers());
            need(!isPrivate || !face.contains(method.getName()), "bears a name of the face: " + method);
        }
    }

    private static void words(String text) {
        for (String word : LEFT_OUT) {
            need(!text.contains(word), "left out of the language: " + word);
        }
        need(text.chars().allMatch(sign -> sign < 127), "a sign above 126");
    }

    /** Rule 4: what is called with a class's name ahead of it is of the list, or of a class of our own. */
    private static void library(String code) {
        Matcher name = Pattern.compile("\\b([A-Z]\\w*[a-z]\\w*)\\.\\w+").matcher(code);
        while (name.find()) {
            boolean isOwn = name.group(1).equals("CallText");
            need(isOwn || LIBRARY.contains(name.group()), "not of the library that is left: " + name.group());
        }
    }

    /** Rule 12: rows and objects are made with the object; what a call makes is an exception, or nothing. */
    private static void makesNothing(String code) {
        for (String line : code.split("\n")) {
            boolean isFine = line.contains("throw new ") || line.contains(" final ") || line.contains("= new Pool()");
            need(!line.contains("new ") || isFine, "made by a call: " + line.trim());
        }
        int made = code.split("= new Pool\\(\\)", -1).length - 1;
        need(made == 3, "pools are made in " + made + " places");
    }

    /** Rule 11: from the line that opens a method to the brace that stands as far to the right as that line. */
    private static void shortMethods(String text) {
        String[] lines = text.split("\n");
        for (int at = 0; at < lines.length; at++) {
            Matcher head = Pattern.compile("( {4}| {8})\\w[^=;]*\\).*\\{").matcher(lines[at]);
            int end = at;
            while (head.matches() && end < lines.length && !lines[end].equals(head.group(1) + "}")) {
                end++;
            }
            need(end - at < MOST_LINES, "too long: " + lines[at].trim());
        }
    }

    private static void need(boolean holds, String what) {
        if (!holds) {
            Due.report(what);
        }
    }
}
