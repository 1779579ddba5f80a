import java.lang.reflect.Method;
import java.nio.file.Files;
import java.nio.file.Path;
import java.util.Map;
import java.util.TreeMap;
import java.util.regex.Matcher;
import java.util.regex.Pattern;

/** Makes the calls that README.md shows and looks whether each answers what stands behind it there. */
public final class ReadmeTest {
    private static final Pattern CALL = Pattern.compile("x\\.(\\w+)\\(([^)]*)\\); +// (-?\\d+)\\b.*");
    private static final Pattern BLOCK = Pattern.compile("(?s)```java\n(.*?)```");

    private ReadmeTest() {
    }

    public static void main(String[] args) throws Exception {
        String text = Files.readString(Path.of("README.md"));
        int calls = 0;
        int wrong = 0;
        Matcher block = BLOCK.matcher(text);
        while (block.find()) {
            WrittenColumns x = new WrittenColumns();
            for (String line : block.group(1).split("\n")) {
                if (line.startsWith("x.")) {
                    calls++;
                    wrong += isAsItSays(x, line) ? 0 : 1;
                }
            }
        }
        Map<String, Method> face = face();
        for (String name : face.keySet()) {
            if (!text.contains("`" + name + "`")) {
                wrong++;
                System.out.println(name + " isn't named");
            }
        }
        System.out.println(calls + " calls of README.md, wrong: " + wrong);
        if (wrong != 0 || calls == 0) {
            System.exit(1);
        }
    }

    private static boolean isAsItSays(WrittenColumns x, String line) throws Exception {
        Matcher call = CALL.matcher(line);
        Method method = call.matches() ? face().get(call.group(1)) : null;
        if (method == null) {
            System.out.println("this can't be read: " + line);
            return false;
        }
        int due = Integer.parseInt(call.group(3));
        Object got = method.invoke(x, numbers(call.group(2)));
        if (!got.equals(due)) {
            System.out.println(line + " answered " + got);
            return false;
        }
        return true;
    }

    private static Object[] numbers(String told) {
        String[] parts = told.isEmpty() ? new String[0] : told.split(", *");
        Object[] numbers = new Object[parts.length];
        for (int i = 0; i < parts.length; i++) {
            boolean isBits = parts[i].startsWith("0b");
            numbers[i] = isBits ? Integer.parseInt(parts[i].substring(2), 2) : Integer.parseInt(parts[i]);
        }
        return numbers;
    }

    private static Map<String, Method> face() {
        Map<String, Method> face = new TreeMap<>();
        for (Method method : WrittenColumns.class.getDeclaredMethods()) {
            if (java.lang.reflect.Modifier.isPublic(method.getModifiers())) {
                face.put(method.getName(), method);
            }
        }
        return face;
    }
}
