import java.io.IOException;
import java.lang.reflect.Constructor;
import java.lang.reflect.Field;
import java.lang.reflect.Method;
import java.lang.reflect.Modifier;
import java.nio.charset.StandardCharsets;
import java.nio.file.Files;
import java.nio.file.Path;
import java.util.Arrays;
import java.util.Set;
import java.util.TreeSet;
import java.util.regex.Matcher;
import java.util.regex.Pattern;

/** The face of the class, and the rules of LANGUAGE.md that can be seen in the source. */
public final class LanguageTests {
    private static final String SOURCE = "src/main/java/CinemaClock.java";
    private static final String[] FACE = {
        "workers 1", "group 1", "task 3", "set 3", "calendar 4", "body 4", "after 3", "plan 3", "clearPlan 0",
        "clock 1", "jump 1", "cancel 2", "stop 1", "go 0", "run 2", "of 2", "next 2", "waiting 2", "book 2",
        "count 1", "cell 1", "day 2", "idle 1", "load 1", "quiet 0"};
    private static final String[] BANNED = {
        "throw", "throws", "try", "catch", "finally", "synchronized", "assert", "import", "package", "protected",
        "volatile", "transient", "native", "hashCode", "equals", "toString", "Object", "var", "yield", "Random",
        "Thread", "Exact", "System\\.(?!arraycopy)\\w+", "->", "::", "instanceof", "%n", "new \\w+\\(\\) \\{"};
    private static int wrong = 0;

    private static void fault(String what) {
        wrong++;
        System.out.println("LanguageTests: " + what);
    }

    public static void main(String[] args) throws IOException {
        face();
        nested();
        source(Files.readString(Path.of(SOURCE), StandardCharsets.ISO_8859_1));
        System.out.println(wrong == 0 ? "LanguageTests: the rules are kept" : wrong + " rules are not kept");
        if (wrong != 0) System.exit(1);
    }

    private static void face() {
        Class<?> c = CinemaClock.class;
        int mods = c.getModifiers();
        if (!Modifier.isPublic(mods) || !Modifier.isFinal(mods)) fault("the class is not public and final");
        Set<String> found = new TreeSet<>();
        Set<String> names = new TreeSet<>();
        for (Method m : c.getDeclaredMethods()) {
            if (m.isSynthetic() || !Modifier.isPublic(m.getModifiers())) continue;
            found.add(m.getName() + " " + m.getParameterCount());
            names.add(m.getName());
            boolean ints = m.getReturnType() == int.class && !Modifier.isStatic(m.getModifiers());
            for (Class<?> p : m.getParameterTypes()) ints &= p == int.class;
            if (!ints) fault(m + " is not as the face tells");
        }
        if (!found.equals(new TreeSet<>(Arrays.asList(FACE)))) fault("the public methods are " + found);
        for (Method m : c.getDeclaredMethods()) {
            if (m.isSynthetic() || Modifier.isPublic(m.getModifiers())) continue;
            if (!Modifier.isPrivate(m.getModifiers())) fault(m + " is not private");
            if (names.contains(m.getName())) fault(m + " bears the name of a public method");
        }
        for (Constructor<?> k : c.getDeclaredConstructors()) {
            if (!Modifier.isPublic(k.getModifiers()) || k.getParameterCount() != 0) fault(k + " is not of the face");
        }
        Set<String> constants = new TreeSet<>(Arrays.asList("NONE", "BAD", "STATE", "FULL"));
        int own = 0;
        for (Field f : c.getDeclaredFields()) {
            if (f.isSynthetic()) continue;
            if (!Modifier.isStatic(f.getModifiers())) own++;
            else if (!Modifier.isFinal(f.getModifiers())) fault(f + " is static and not final");
            if (Modifier.isPrivate(f.getModifiers())) continue;
            if (!Modifier.isPublic(f.getModifiers()) || !constants.remove(f.getName())) fault(f + " is not of the face");
        }
        if (!constants.isEmpty()) fault("constants are missing: " + constants);
        if (own > 20) fault("the class has " + own + " fields");
    }

    private static void nested() {
        Class<?>[] all = CinemaClock.class.getDeclaredClasses();
        if (all.length > 11) fault("the file has " + all.length + " classes inside");
        for (Class<?> c : all) {
            if (!Modifier.isStatic(c.getModifiers())) fault(c + " is not static");
            int own = 0;
            for (Field f : c.getDeclaredFields()) {
                if (f.isSynthetic()) continue;
                if (!Modifier.isStatic(f.getModifiers())) own++;
                else if (!Modifier.isFinal(f.getModifiers())) fault(f + " is static and not final");
            }
            if (own > 20) fault(c + " has " + own + " fields");
            for (Method m : c.getDeclaredMethods()) {
                for (String name : FACE) {
                    if (m.getName().equals(name.substring(0, name.indexOf(' ')))) fault(m + " bears the name of a public method");
                }
                if (m.getParameterCount() > 7) fault(m + " has too many parameters");
            }
        }
    }

    private static void source(String text) {
        for (int i = 0; i < text.length(); i++) {
            if (text.charAt(i) > 126) fault("a sign beyond 126 at " + i);
        }
        String code = text.replaceAll("(?s)/\\*.*?\\*/", "").replaceAll("//[^\n]*", "");
        for (String word : BANNED) {
            boolean isWord = Character.isLetter(word.charAt(0)) && word.indexOf('\\') < 0;
            Matcher m = Pattern.compile(isWord ? "\\b" + word + "\\b" : word).matcher(code);
            if (m.find()) fault("the source has '" + m.group() + "'");
        }
        Matcher call = Pattern.compile("\\b([A-Z]\\w+)\\.(\\w+)\\(").matcher(code);
        Set<String> known = new TreeSet<>(Arrays.asList("Math.max", "Math.min", "Math.floorMod"));
        while (call.find()) {
            String name = call.group(1) + "." + call.group(2);
            boolean inside = text.contains("class " + call.group(1) + " ");
            if (!inside && !known.contains(name)) fault("the source calls " + name);
        }
        lengths(code);
    }

    /** The lines of each method, told by the depth of the braces. */
    private static void lengths(String code) {
        int start = -1;
        String[] lines = code.split("\n");
        for (int i = 0; i < lines.length; i++) {
            boolean opens = lines[i].matches("\\s+(private |public |static |final )*[\\w\\[\\]<>]+ \\w+\\(.*\\) \\{");
            if (opens && !lines[i].matches("\\s+(if|for|while|else|switch|return).*")) start = i;
            if (start >= 0 && i - start > 60) {
                fault("a method of more than sixty lines at " + lines[start].trim());
                start = -1;
            }
            if (lines[i].matches(" {4}( {4})?\\}")) start = -1;
        }
    }
}
