import java.io.IOException;
import java.lang.reflect.Method;
import java.lang.reflect.Modifier;
import java.nio.charset.StandardCharsets;
import java.nio.file.Files;
import java.nio.file.Path;
import java.util.HashMap;
import java.util.Map;
import java.util.Set;
import java.util.TreeSet;
import java.util.regex.Matcher;
import java.util.regex.Pattern;

/** Does the examples of README.md, line by line, and looks whether each method of the face has one. */
public final class ReadmeTests {
    private static final Pattern CALL = Pattern.compile(
        "(?:int (\\w+) = )?house\\.(\\w+)\\(([^)]*)\\);\\s*// (-?\\d+|NONE|BAD|STATE|FULL)(?::.*|)");
    private static final Map<String, Integer> NAMES = new HashMap<>();
    private static final Map<String, Method> FACE = new HashMap<>();
    private static final Set<String> UNSEEN = new TreeSet<>();
    private static CinemaClock house = null;
    private static int wrong = 0;
    private static int calls = 0;

    private static void fault(int line, String what) {
        wrong++;
        System.out.println("README.md line " + line + ": " + what);
    }

    public static void main(String[] args) throws IOException, ReflectiveOperationException {
        NAMES.put("NONE", CinemaClock.NONE);
        NAMES.put("BAD", CinemaClock.BAD);
        NAMES.put("STATE", CinemaClock.STATE);
        NAMES.put("FULL", CinemaClock.FULL);
        for (Method m : CinemaClock.class.getDeclaredMethods()) {
            if (Modifier.isPublic(m.getModifiers())) FACE.put(m.getName(), m);
        }
        UNSEEN.addAll(FACE.keySet());
        doExamples(Files.readString(Path.of("README.md"), StandardCharsets.UTF_8).split("\n"));
        if (!UNSEEN.isEmpty()) fault(0, "no example for " + UNSEEN);
        if (calls > 512) fault(0, "more calls than an object answers: " + calls);
        System.out.println("ReadmeTests: " + calls + " calls, " + wrong + " are not as told");
        if (wrong > 0) System.exit(1);
    }

    private static void doExamples(String[] lines) throws ReflectiveOperationException {
        boolean inside = false;
        for (int i = 0; i < lines.length; i++) {
            String line = lines[i].trim();
            if (line.equals("```java")) inside = true;
            else if (line.startsWith("```")) inside = false;
            else if (inside) doLine(line, i + 1);
        }
    }

    private static void doLine(String line, int at) throws ReflectiveOperationException {
        if (line.equals("CinemaClock house = new CinemaClock();")) {
            house = new CinemaClock();
            return;
        }
        Matcher call = CALL.matcher(line);
        if (house == null || !call.matches() || !FACE.containsKey(call.group(2))) {
            fault(at, "is no call with an answer");
            return;
        }
        Integer want = number(call.group(4));
        Object got = FACE.get(call.group(2)).invoke(house, numbers(call.group(3)));
        calls++;
        UNSEEN.remove(call.group(2));
        if (call.group(1) != null) NAMES.put(call.group(1), (Integer) got);
        if (!got.equals(want)) fault(at, "answered " + got + ", told is " + call.group(4));
    }

    private static Object[] numbers(String list) {
        if (list.isEmpty()) return new Object[0];
        String[] parts = list.split(", ");
        Object[] all = new Object[parts.length];
        for (int i = 0; i < parts.length; i++) all[i] = number(parts[i]);
        return all;
    }

    private static Integer number(String word) {
        return NAMES.containsKey(word) ? NAMES.get(word) : Integer.valueOf(word);
    }
}
