import java.io.IOException;
import java.lang.reflect.Method;
import java.lang.reflect.Modifier;
import java.nio.file.Files;
import java.nio.file.Path;
import java.util.Arrays;
import java.util.HashSet;
import java.util.Set;
import java.util.regex.Matcher;
import java.util.regex.Pattern;

/** README.md's calls answer what it says of them, and it tells every call of the face. */
public final class ReadmeTest {
    private static final Pattern TEXT = Pattern.compile("String text = \"([^\"]*)\";");
    private static final Pattern WRITING = Pattern.compile("for .* x\\.put\\((\\d+), i, text\\.charAt\\(i\\)\\);");
    private static final Pattern CALL = Pattern.compile("x\\.(\\w+)\\((.*?)\\); +// (-?\\d+): .*");

    private static int wrong = 0;

    public static void main(String[] args) throws IOException, ReflectiveOperationException {
        Set<String> told = followed(example(Files.readString(Path.of("README.md"))));
        for (Method m : HourDoors.class.getDeclaredMethods()) {
            if (Modifier.isPublic(m.getModifiers())) check(told.contains(m.getName()), m.getName() + " is not told");
        }
        System.out.println(told.size() + " calls are told, " + wrong + " things not as due");
        if (wrong != 0) System.exit(1);
    }

    private static void check(boolean good, String fault) {
        if (good) return;
        wrong++;
        System.out.println("README.md: " + fault);
    }

    private static String example(String page) {
        Matcher block = Pattern.compile("```java\\n(.*?)```", Pattern.DOTALL).matcher(page);
        check(block.find(), "there is no example");
        return wrong == 0 ? block.group(1) : "";
    }

    /** Does what the example's lines say; which calls it made. */
    private static Set<String> followed(String example) throws ReflectiveOperationException {
        Set<String> told = new HashSet<>();
        HourDoors x = new HourDoors();
        String text = "";
        for (String line : example.split("\n")) {
            Matcher given = TEXT.matcher(line);
            Matcher writing = WRITING.matcher(line);
            Matcher call = CALL.matcher(line);
            if (given.matches()) {
                text = given.group(1);
            } else if (writing.matches()) {
                for (int i = 0; i < text.length(); i++) x.put(Integer.parseInt(writing.group(1)), i, text.charAt(i));
            } else if (call.matches()) {
                String numbers = call.group(2).replace("text.length()", String.valueOf(text.length()));
                long got = answer(x, call.group(1), numbers);
                check(got == Long.parseLong(call.group(3)), "answered " + got + ": " + line);
                told.add(call.group(1));
            } else {
                boolean other = line.isBlank() || line.startsWith("//") || line.equals("HourDoors x = new HourDoors();");
                check(other, "not understood: " + line);
            }
        }
        return told;
    }

    private static long answer(HourDoors x, String name, String numbers) throws ReflectiveOperationException {
        Object[] args = numbers.isEmpty() ? new Object[0]
            : Arrays.stream(numbers.split(", ")).map(Integer::valueOf).toArray();
        Class<?>[] types = new Class<?>[args.length];
        Arrays.fill(types, int.class);
        return ((Number) HourDoors.class.getMethod(name, types).invoke(x, args)).longValue();
    }
}
