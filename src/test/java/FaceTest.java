import java.lang.reflect.Constructor;
import java.lang.reflect.Field;
import java.lang.reflect.Method;
import java.lang.reflect.Modifier;
import java.nio.file.Files;
import java.nio.file.Path;
import java.util.ArrayList;
import java.util.List;
import java.util.Set;
import java.util.TreeSet;
import java.util.regex.Matcher;
import java.util.regex.Pattern;

/** The document's face, no more and no less, and what of LANGUAGE.md a look at the class and its text can tell. */
public final class FaceTest {
    private static final String[] FACE = {"reckon 4", "uniform 3", "columns 4", "tell 3", "cause 1", "rank 2", "span 2",
        "sorts 2", "many 2", "at 3", "best 3", "dual 2", "minor 4", "union 3", "renumber 3", "same 2", "alike 2",
        "writings 2", "writes 3", "clash 1", "excluded 3", "seed 1", "deal 4", "chance 5", "hold 3", "held 2", "take 2",
        "sheet 3", "write 3", "item 2", "copy 5", "list 2", "image 0", "back 0", "count 1"};
    private static final String[] BANNED = {"\\b(throw|throws|try|catch|synchronized|assert|package|protected)\\b",
        "(?m)^(?!\\s*(case|default)\\b).*->", "::", "\\w*Exact\\b", "\\b(hashCode|boolean equals|String toString)\\b",
        "new [^;{]*\\) *\\{", "\\bSystem\\.(?!arraycopy\\b)", "\\bstatic \\{", "[^\\x00-\\x7f]",
        "\\bimport (?!java\\.util\\.(ArrayList|List|Arrays|Iterator);)", "\\b(Integer|Long|Byte|Short)\\.M(IN|AX)_VALUE\\b",
        "\\b(Thread|Runtime|Random|Object|Class|Double|Float|Character|Boolean|Exception|Error|Throwable)\\b"};
    /** What LANGUAGE.md leaves for a run, as bytes of 512 calls: 7.3 million fields and elements. */
    private static final long ROOM = 7_300_000L * 4;
    private static int wrong;

    private FaceTest() {
    }

    public static void main(String[] args) throws Exception {
        lookAtFace();
        lookAtNestedClasses();
        lookAtText();
        lookAtRoom();
        System.out.println("the face and the language, wrong: " + wrong);
        if (wrong != 0) {
            System.exit(1);
        }
    }

    private static void fault(boolean is, String what) {
        if (is) {
            wrong++;
            System.out.println(what);
        }
    }

    private static void lookAtFace() throws Exception {
        Class<?> type = WrittenColumns.class;
        fault(!Modifier.isPublic(type.getModifiers()) || !Modifier.isFinal(type.getModifiers()), "not public and final");
        Set<String> due = new TreeSet<>(List.of(FACE));
        Set<String> found = new TreeSet<>();
        for (Method method : type.getDeclaredMethods()) {
            if (!Modifier.isPrivate(method.getModifiers())) {
                found.add(method.getName() + " " + method.getParameterCount());
                fault(method.getReturnType() != int.class, method + " answers no int");
                fault(!Modifier.isPublic(method.getModifiers()), method + " isn't public");
                for (Class<?> parameter : method.getParameterTypes()) {
                    fault(parameter != int.class, method + " takes another thing than ints");
                }
            }
        }
        fault(!due.equals(found), "methods are " + found);
        List<String> constants = new ArrayList<>();
        for (Field field : type.getDeclaredFields()) {
            if (!Modifier.isPrivate(field.getModifiers())) {
                constants.add(field.getName() + " " + field.getInt(null));
                fault(!Modifier.isPublic(field.getModifiers()) || !Modifier.isFinal(field.getModifiers()), field.toString());
            }
        }
        fault(!constants.equals(List.of("NONE -1", "BAD -2", "STATE -3", "MUCH -5")), "constants are " + constants);
        Constructor<?>[] constructors = type.getDeclaredConstructors();
        fault(constructors.length != 1 || constructors[0].getParameterCount() != 0, "constructors");
    }

    private static void lookAtNestedClasses() {
        Class<?>[] nested = WrittenColumns.class.getDeclaredClasses();
        fault(nested.length > 12, "too many classes");
        Set<String> names = new TreeSet<>();
        for (String method : FACE) {
            names.add(method.substring(0, method.indexOf(' ')));
        }
        for (Class<?> type : nested) {
            fault(!Modifier.isStatic(type.getModifiers()), type + " isn't static");
            for (Method method : type.getDeclaredMethods()) {
                fault(names.contains(method.getName()), method + " bears a public one's name");
                fault(method.getParameterCount() > 7, method + " takes more than seven");
            }
            for (Field field : type.getDeclaredFields()) {
                boolean stays = !Modifier.isStatic(field.getModifiers()) || Modifier.isFinal(field.getModifiers());
                fault(!stays, field + " is static and not final");
            }
        }
    }

    private static void lookAtText() throws Exception {
        String text = Files.readString(Path.of("src/main/java/WrittenColumns.java"));
        String code = text.replaceAll("(?s)/\\*.*?\\*/", "").replaceAll("//[^\n]*", "");
        for (String word : BANNED) {
            Matcher matcher = Pattern.compile(word).matcher(code);
            fault(matcher.find(), "the text has what is banned: " + word);
        }
        lookAtLengths(code);
    }

    private static void lookAtLengths(String code) {
        Pattern header = Pattern.compile("( {4}| {8})(?!for|if|while|switch|\\})\\S.*\\) \\{");
        String indent = null;
        int length = 0;
        int methods = 0;
        for (String line : code.split("\n")) {
            Matcher matcher = header.matcher(line);
            if (indent == null && matcher.matches()) {
                indent = matcher.group(1);
                length = 0;
                methods++;
            }
            length++;
            if (line.equals(indent + "}")) {
                fault(length > 66, "a method is too long, it ends with its line " + length);
                indent = null;
            }
        }
        fault(methods == 0, "methods weren't told apart");
    }

    /** All calls of a run live in one room: twenty times those of callAll() are about as many as a run has. */
    private static void lookAtRoom() {
        com.sun.management.ThreadMXBean threads =
                (com.sun.management.ThreadMXBean) java.lang.management.ManagementFactory.getThreadMXBean();
        WrittenColumns x = new WrittenColumns();
        long id = Thread.currentThread().getId();
        callAll(x);
        long before = threads.getThreadAllocatedBytes(id);
        for (int round = 0; round < 20; round++) {
            callAll(x);
        }
        long made = threads.getThreadAllocatedBytes(id) - before;
        fault(made > ROOM, "a run's calls made " + made + " bytes of objects");
    }

    private static void callAll(WrittenColumns x) {
        x.uniform(0, 6, 3);
        x.dual(0, 1);
        x.deal(2, 2, 7, 3);
        x.minor(2, 3, 1, 2);
        x.union(2, 2, 3);
        x.writings(0, 2);
        x.writes(0, 2, 0);
        x.columns(1, 2, 0, 6);
        x.list(0, 1);
        x.tell(0, 1, 6);
        x.tell(0, 1, 3);
        x.alike(0, 1);
        x.clash(0);
        x.excluded(2, 0, 0);
        x.excluded(2, 1, 1);
        x.chance(2, 7, 3, 5, 3);
        x.hold(0, 1, 0);
        x.take(0, 0);
        x.sheet(2, 0, 64);
        x.copy(2, 0, 2, 1, 9);
        x.renumber(3, 3, 2);
        x.best(0, 0, 0);
        x.sorts(0, 7);
        x.many(0, 4);
        x.image();
        x.back();
    }
}
