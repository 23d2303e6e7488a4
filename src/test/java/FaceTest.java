import java.io.IOException;
import java.lang.reflect.Constructor;
import java.lang.reflect.Field;
import java.lang.reflect.Method;
import java.lang.reflect.Modifier;
import java.nio.file.Files;
import java.nio.file.Path;
import java.util.ArrayList;
import java.util.Collections;
import java.util.HashSet;
import java.util.List;
import java.util.Set;
import java.util.regex.Matcher;
import java.util.regex.Pattern;

/** The document's public face, and those rules of LANGUAGE.md that can be looked at from outside. */
public final class FaceTest {
    /** Each public method with the number of its ints. */
    private static final String FACE = "fall2 ground2 gate2 shut1 thing2 of2 change3 told3 go1 put2 minutes1 are1 on1"
        + " ahead2 meet0 ends1 takes1 speed1 seen1 sand2 rollsFor1 matters1 kindFor1 wait1 behind2 come0 pack1 lean1"
        + " drums2 waits0 least0 order1 wheel1 odds2 worst0 seed1 feed2 wipe0 text0 hold2 as2 sheet3 write3 copy5 load2"
        + " judge2 image0 undo0 tear0 count1 status1";
    /** All that the source has of the library (rule 4 lists functions, and no constants such as Integer's MAX_VALUE). */
    private static final Set<String> LIBRARY = Set.of(
        "Integer.bitCount(", "Math.abs(", "Math.max(", "Math.min(", "System.arraycopy(", "word.length(", "word.charAt(");
    private static final String FORBIDDEN = "\\b(throw|try|catch|synchronized|assert|import|package|yield|Exception"
        + "|Object|hashCode|toString|System\\.(?!arraycopy))\\b|->|::";

    public static void main(String[] args) throws IOException {
        Due due = new Due("Face");
        face(due);
        members(due, RollTown.class);
        source(due, Files.readString(Path.of("src/main/java/RollTown.java")));
        due.end();
    }

    private static void face(Due due) {
        List<String> want = new ArrayList<>(List.of(FACE.split(" ")));
        List<String> got = new ArrayList<>();
        for (Method m : RollTown.class.getDeclaredMethods()) {
            if (Modifier.isPublic(m.getModifiers())) {
                got.add(m.getName() + m.getParameterCount());
                due.same("answer of " + m.getName(), m.getReturnType().getName(), "int");
                due.is("static " + m.getName(), m.getModifiers() & Modifier.STATIC, 0);
                for (Class<?> type : m.getParameterTypes()) {
                    due.same("parameter of " + m.getName(), type.getName(), "int");
                }
            }
        }
        Collections.sort(want);
        Collections.sort(got);
        due.same("the face", got.toString(), want.toString());
        due.is("methods", got.size(), 51);
        due.is("public and final", RollTown.class.getModifiers(), Modifier.PUBLIC | Modifier.FINAL);
        Constructor<?>[] constructors = RollTown.class.getDeclaredConstructors();
        due.is("constructors", constructors.length, 1);
        due.is("its parameters", constructors[0].getParameterCount(), 0);
        due.is("it is public", constructors[0].getModifiers(), Modifier.PUBLIC);
    }

    private static void members(Due due, Class<?> type) {
        Set<String> open = new HashSet<>();
        for (Method m : type.getDeclaredMethods()) {
            if (Modifier.isPublic(m.getModifiers())) {
                open.add(m.getName());
            }
        }
        for (Method m : type.getDeclaredMethods()) {
            boolean isPrivate = Modifier.isPrivate(m.getModifiers());
            due.is("public or private: " + m, isPrivate || Modifier.isPublic(m.getModifiers()) ? 1 : 0, 1);
            due.is("a name of its own: " + m, isPrivate && open.contains(m.getName()) ? 1 : 0, 0);
            due.is("seven parameters at most: " + m, m.getParameterCount() <= 7 ? 1 : 0, 1);
        }
        due.is("rule 11: fields of " + type, fields(due, type, true) <= 20 ? 1 : 0, 1);
        Class<?>[] inside = type.getDeclaredClasses();
        due.is("rule 11: classes", inside.length < 12 ? 1 : 0, 1);
        for (Class<?> c : inside) {
            due.is("rule 2: static " + c, c.getModifiers() & Modifier.STATIC, Modifier.STATIC);
            due.is("rule 11: fields of " + c, fields(due, c, false) <= 20 ? 1 : 0, 1);
            for (Method m : c.getDeclaredMethods()) {
                due.is("rule 1: " + m, open.contains(m.getName()) ? 1 : 0, 0);
            }
        }
    }

    private static int fields(Due due, Class<?> type, boolean isFace) {
        int own = 0;
        for (Field f : type.getDeclaredFields()) {
            boolean isStatic = Modifier.isStatic(f.getModifiers());
            due.is("rule 5: static and final " + f, isStatic && !Modifier.isFinal(f.getModifiers()) ? 1 : 0, 0);
            due.is("rule 1: private " + f, isFace && !Modifier.isPrivate(f.getModifiers()) ? 1 : 0, 0);
            own += isStatic ? 0 : 1;
        }
        return own;
    }

    private static void source(Due due, String source) {
        String code = source.replaceAll("(?s)/\\*.*?\\*/", "").replaceAll("//[^\n]*", "").replaceAll("\"[^\"\n]*\"", "\"\"");
        Matcher found = Pattern.compile(FORBIDDEN).matcher(code);
        due.same("rules 4, 6: words that the source has not", found.find() ? found.group() : "", "");
        Matcher used = Pattern.compile("\\b(?:[A-Z]\\w*[a-z]\\w*|java|word)\\.\\w+\\(?").matcher(code);
        while (used.find()) {
            due.is("rule 4: " + used.group(), LIBRARY.contains(used.group()) ? 1 : 0, 1);
        }
        int made = code.split("\\bnew\\b", -1).length;
        int inMethods = code.split("(?m)^ {8,}+(?!things\\[i\\]|sheets\\[s\\]|(private )?final ).*\\bnew\\b", -1).length;
        due.is("rule 12: objects are made at all", made > 1 ? 1 : 0, 1);
        due.is("rule 12: calls make none", inMethods - 1, 0);
        int length = 0;
        for (String line : source.split("\n")) {
            length = line.matches(" {4}(?: {4})?[a-zA-Z].*\\{") && !line.contains(" class ") ? 0 : length + 1;
            due.is("rule 11: a method's length at '" + line + "'", line.matches(" {4}(?: {4})?\\}") && length > 60 ? 1 : 0, 0);
        }
        due.is("plain signs", source.chars().filter(c -> c > 126 || c < 32 && c != '\n').count(), 0);
    }
}
