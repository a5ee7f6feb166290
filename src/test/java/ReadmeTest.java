import java.lang.reflect.Method;
import java.lang.reflect.Modifier;
import java.nio.charset.StandardCharsets;
import java.nio.file.Files;
import java.nio.file.Path;
import java.util.regex.Matcher;
import java.util.regex.Pattern;

/** README.md (in the folder it is run from): its example's answers are those that are given, and no call is left out. */
public final class ReadmeTest {
    private static final Check check = new Check();
    private static final Pattern CALL = Pattern.compile("stove\\.(\\w+)\\(([-0-9, ]*)\\); +// (-?\\d+): .*");
    private static final Pattern TEXT = Pattern.compile("for \\(char sign : \"(.*)\"\\.toCharArray\\(\\)\\) \\{");

    public static void main(String[] args) throws Exception {
        String page = Files.readString(Path.of("README.md"), StandardCharsets.UTF_8);
        int from = page.indexOf("```java\n") + "```java\n".length();
        String example = page.substring(from, page.indexOf("```", from));
        runs(example);
        for (Method m : BootsStove.class.getDeclaredMethods()) {
            if (Modifier.isPublic(m.getModifiers())) {
                boolean isNamed = page.contains("`" + m.getName() + "(`");
                check.due("README.md says what " + m.getName() + " is for", isNamed ? 1 : 0, 1);
            }
        }
        check.end("ReadmeTest");
    }

    private static void runs(String example) throws Exception {
        BootsStove stove = new BootsStove();
        int calls = 0;
        for (String line : example.split("\n")) {
            Matcher call = CALL.matcher(line);
            Matcher text = TEXT.matcher(line);
            if (call.matches()) {
                check.due(line, answer(stove, call.group(1), call.group(2)), Long.parseLong(call.group(3)));
                calls++;
            } else if (text.matches()) {
                Check.feed(stove, text.group(1));
            } else {
                boolean isKnown = line.startsWith("BootsStove stove = ") || line.startsWith("    stove.feed(sign);")
                    || line.equals("}");
                check.due("a line of README.md that is not tried: " + line, isKnown ? 1 : 0, 1);
            }
        }
        check.due("README.md has an example", calls > 0 ? 1 : 0, 1);
    }

    /** Of calls with numbers alone. */
    private static long answer(BootsStove stove, String name, String numbers) throws Exception {
        String[] parts = numbers.isEmpty() ? new String[0] : numbers.split(", *");
        Object[] arguments = new Object[parts.length];
        Class<?>[] types = new Class<?>[parts.length];
        for (int i = 0; i < parts.length; i++) {
            arguments[i] = Integer.parseInt(parts[i]);
            types[i] = int.class;
        }
        return ((Number) BootsStove.class.getMethod(name, types).invoke(stove, arguments)).longValue();
    }
}
