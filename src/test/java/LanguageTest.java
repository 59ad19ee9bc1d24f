import java.io.IOException;
import java.lang.reflect.Constructor;
import java.lang.reflect.Field;
import java.lang.reflect.Method;
import java.lang.reflect.Modifier;
import java.nio.file.Files;
import java.nio.file.Path;
import java.util.Arrays;
import java.util.Set;
import java.util.TreeSet;

/** Rules of LANGUAGE.md that can be seen from outside: the face, the words that are left out, the fields. */
public final class LanguageTest {
    private static final String[] FACE = {"append", "appear", "ask", "blocker", "check", "clearBuffer", "count",
        "digest", "drain", "fairness", "firstError", "give", "giveUp", "ifAsked", "ifPassed", "owner", "pass", "place",
        "run", "set", "setting", "sicken", "undo", "waitsFor"};
    private static final String[] LEFT_OUT = {"import ", "package ", "->", "::", "finally", "synchronized", "assert ",
        "catch", "instanceof", "Exact(", "Double.", "System.out", "native ", "volatile ", "transient "};

    public static void main(String[] args) throws IOException {
        face();
        classes(PoolTurns.class);
        for (Class<?> inside : PoolTurns.class.getDeclaredClasses()) {
            classes(inside);
        }
        words();
        Due.end();
    }

    private static void face() {
        Set<String> open = new TreeSet<>();
        for (Method method : PoolTurns.class.getDeclaredMethods()) {
            if (!Modifier.isPrivate(method.getModifiers())) {
                open.add(method.getName());
            }
        }
        need(open.equals(new TreeSet<>(Arrays.asList(FACE))), "the methods of the face are " + open);
        for (Field field : PoolTurns.class.getDeclaredFields()) {
            boolean isConstant = field.getName().equals("NONE");
            need(isConstant || Modifier.isPrivate(field.getModifiers()), "not private: " + field);
        }
        need(Modifier.isFinal(PoolTurns.class.getModifiers()), "the class is not final");
        Constructor<?>[] constructors = PoolTurns.class.getDeclaredConstructors();
        need(constructors.length == 1 && Modifier.isPublic(constructors[0].getModifiers()), "the constructors");
    }

    private static void classes(Class<?> one) {
        Set<String> face = new TreeSet<>(Arrays.asList(FACE));
        int fields = 0;
        for (Field field : one.getDeclaredFields()) {
            boolean isStatic = Modifier.isStatic(field.getModifiers());
            need(!isStatic || Modifier.isFinal(field.getModifiers()), "static and not final: " + field);
            fields += isStatic ? 0 : 1;
        }
        need(fields <= 20, "too many fields: " + one);
        for (Method method : one.getDeclaredMethods()) {
            need(method.getParameterCount() <= 7, "too many parameters: " + method);
            boolean isPrivate = one != PoolTurns.class || Modifier.isPrivate(method.getModifiers());
            need(!isPrivate || !face.contains(method.getName()), "bears a name of the face: " + method);
        }
    }

    private static void words() throws IOException {
        String text = Files.readString(Path.of("src/main/java/PoolTurns.java"));
        for (String word : LEFT_OUT) {
            need(!text.contains(word), "left out of the language: " + word);
        }
        need(text.chars().allMatch(sign -> sign < 127), "a sign above 126");
    }

    private static void need(boolean holds, String what) {
        if (!holds) {
            Due.report(what);
        }
    }
}
