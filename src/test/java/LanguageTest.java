import java.io.IOException;
import java.lang.management.ManagementFactory;
import java.lang.reflect.Constructor;
import java.lang.reflect.Field;
import java.lang.reflect.Method;
import java.lang.reflect.Modifier;
import java.nio.file.Files;
import java.nio.file.Path;
import java.util.ArrayList;
import java.util.Arrays;
import java.util.List;
import java.util.Set;
import java.util.TreeSet;
import java.util.regex.Matcher;
import java.util.regex.Pattern;

/** The face of the document, and those rules of LANGUAGE.md that a test can see. */
public final class LanguageTest {
    private static final String SOURCE = "src/main/java/HourDoors.java";
    private static final int MOST_LINES = 60;

    private static final String[] FACE = {
        "int house 4", "int ofDoor 2", "int leads 2", "int step 2", "int turn 2", "int walk 7", "int soonest 4",
        "int errands 3", "int meet 3", "int cut 3", "int reach 1", "int reading 3", "int back 1", "int steps 1",
        "int targets 1", "int kinds 1", "long odds 4", "int sheet 3", "int lose 1", "int put 3", "long cell 3",
        "int copy 5", "int tell 1", "int knock 1", "int as 2", "int trace 0", "int fault 0", "int many 1"
    };

    private static final String[] FORBIDDEN = {
        "throw", "throws", "try", "catch", "finally", "synchronized", "assert", "native", "volatile", "transient",
        "protected", "var", "Object", "Exception", "Random", "Thread", "hashCode", "toString"
    };

    private static int wrong = 0;

    private static void check(boolean good, String rule) {
        if (good) return;
        wrong++;
        System.out.println("not as due: " + rule);
    }

    public static void main(String[] args) throws IOException {
        face();
        members();
        String code = Files.readString(Path.of(SOURCE));
        words(withoutComments(code));
        lengths(withoutComments(code));
        callsMakeNothing();
        System.out.println(wrong == 0 ? "the language is kept to" : wrong + " rules are not kept");
        if (wrong != 0) System.exit(1);
    }

    private static void face() {
        Set<String> want = new TreeSet<>(Arrays.asList(FACE));
        Set<String> got = new TreeSet<>();
        for (Method m : HourDoors.class.getDeclaredMethods()) {
            if (Modifier.isPrivate(m.getModifiers())) continue;
            check(Modifier.isPublic(m.getModifiers()) && !Modifier.isStatic(m.getModifiers()), "public: " + m);
            for (Class<?> type : m.getParameterTypes()) check(type == int.class, "takes ints: " + m);
            got.add(m.getReturnType() + " " + m.getName() + " " + m.getParameterCount());
        }
        check(want.equals(got), "the face is " + want + ", not " + got);
        Constructor<?>[] made = HourDoors.class.getDeclaredConstructors();
        check(made.length == 1 && Modifier.isPublic(made[0].getModifiers()) && made[0].getParameterCount() == 0,
            "one public constructor");
        check(Modifier.isPublic(HourDoors.class.getModifiers()) && Modifier.isFinal(HourDoors.class.getModifiers()),
            "a public final class");
        Set<String> constants = new TreeSet<>();
        for (Field f : HourDoors.class.getDeclaredFields()) {
            if (!Modifier.isPrivate(f.getModifiers())) constants.add(f.getType() + " " + f.getName());
        }
        check(constants.equals(new TreeSet<>(Arrays.asList("int UNKNOWN", "int OUTSIDE", "int STATE", "int FULL",
            "int NONE", "long LOST"))), "the constants are not " + constants);
    }

    private static void members() {
        Set<String> open = new TreeSet<>();
        for (String call : FACE) open.add(call.split(" ")[1]);
        List<Class<?>> all = new ArrayList<>(Arrays.asList(HourDoors.class.getDeclaredClasses()));
        for (Class<?> inside : all) {
            check(Modifier.isStatic(inside.getModifiers()), "static: " + inside);
            check(!Modifier.isPublic(inside.getModifiers()), "not public: " + inside);
        }
        all.add(HourDoors.class);
        check(all.size() <= 12, "at most twelve classes");
        for (Class<?> owner : all) {
            int fields = 0;
            for (Field f : owner.getDeclaredFields()) {
                boolean constant = Modifier.isStatic(f.getModifiers());
                check(!constant || Modifier.isFinal(f.getModifiers()), "final: " + f);
                if (!constant) fields++;
            }
            check(fields <= 20, "at most twenty fields: " + owner);
            for (Method m : owner.getDeclaredMethods()) {
                check(m.getParameterCount() <= 7, "at most seven parameters: " + m);
                boolean face = owner == HourDoors.class && Modifier.isPublic(m.getModifiers());
                check(face || !open.contains(m.getName()), "no call's name: " + m);
            }
        }
    }

    private static String withoutComments(String code) {
        Matcher comment = Pattern.compile("/\\*.*?\\*/|//[^\\n]*", Pattern.DOTALL).matcher(code);
        // the lines of a comment still count as lines
        return comment.replaceAll(found -> found.group().replaceAll("[^\\n]", ""));
    }

    private static void words(String code) {
        for (String word : FORBIDDEN) {
            check(!Pattern.compile("\\b" + word + "\\b").matcher(code).find(), "no " + word);
        }
        for (String part : new String[] {"->", "::", "Exact", "package ", "static {", "@"}) {
            check(!code.contains(part), "no " + part);
        }
        Matcher imports = Pattern.compile("import ([^;]*);").matcher(code);
        while (imports.find()) check(imports.group(1).equals("java.util.Arrays"), "no import of " + imports.group(1));
        Matcher library = Pattern.compile("\\b(System|Arrays|Math|Integer|Long)\\.(\\w+)").matcher(code);
        Set<String> allowed = Set.of("System.arraycopy", "Arrays.fill", "Long.MIN_VALUE");
        while (library.find()) check(allowed.contains(library.group()), "no " + library.group());
    }

    private static void lengths(String code) {
        String[] lines = code.split("\n");
        int begin = -1;
        for (int i = 0; i < lines.length; i++) {
            boolean opens = lines[i].matches(" {4}( {4})?[a-zA-Z].*\\(.*\\) \\{") && !lines[i].matches(" *(if|for|switch) .*");
            if (opens) begin = i;
            if (begin >= 0 && lines[i].matches(" {4}( {4})?\\}")) {
                check(i - begin < MOST_LINES, "a method of " + (i - begin + 1) + " lines at " + (begin + 1));
                if (lines[i].indexOf('}') == lines[begin].length() - lines[begin].stripLeading().length()) begin = -1;
            }
        }
    }

    /** All calls of a run live in one room, so a call is to make no object. */
    private static void callsMakeNothing() {
        var bean = (com.sun.management.ThreadMXBean) ManagementFactory.getThreadMXBean();
        HourDoors x = new HourDoors();
        long most = 0;
        for (int round = 0; round < 50; round++) {
            long before = bean.getCurrentThreadAllocatedBytes();
            everyCall(x, round);
            long made = bean.getCurrentThreadAllocatedBytes() - before;
            // the first rounds load classes
            if (round >= 10) most = Math.max(most, made);
        }
        check(most < 100, "the calls made " + most + " bytes");
    }

    private static void everyCall(HourDoors x, int round) {
        x.sheet(0, 1, 12);
        x.put(0, 0, 'd');
        x.put(0, 1, '6');
        for (int d = 0; d < 2; d++) {
            x.put(0, 5 * d + 2, ';');
            x.put(0, 5 * d + 3, d == 0 ? 'p' : 'c');
            x.put(0, 5 * d + 4, '0' + d);
            x.put(0, 5 * d + 5, '1');
            x.put(0, 5 * d + 6, '0' + round % 6);
        }
        x.house(0, 1, 0, 12);
        x.walk(0, 0, 0, 1, 0, 0, 2);
        x.soonest(0, 5, 0, 3);
        x.errands(0, 63, 0);
        x.meet(0, 3, 0);
        x.cut(0, 5, 0);
        x.reach(0);
        x.reading(0, 0, 1);
        x.steps(0);
        x.targets(0);
        x.kinds(0);
        x.odds(0, 5, 20, 0);
        x.copy(0, 0, 0, 1, 5);
        x.cell(0, 0, 1);
        x.lose(0);
        x.tell(1);
        x.knock(1);
        x.as(0, 2);
    }
}
