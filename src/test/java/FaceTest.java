import java.lang.reflect.Field;
import java.lang.reflect.Method;
import java.lang.reflect.Modifier;
import java.nio.charset.StandardCharsets;
import java.nio.file.Files;
import java.nio.file.Path;
import java.util.Arrays;
import java.util.TreeSet;
import java.util.regex.Pattern;

/** The document's face, to the letter, and those rules of LANGUAGE.md that can be seen from the text. */
public final class FaceTest {
    private static final Check check = new Check();
    private static final String[] FACE = {
        "int pair(int,int,int)", "int of(int,int)", "int wet(int,int)", "int put(int,int)", "int take(int,boolean)",
        "int stoke()", "int set(int,int)", "int row(int,int,int)", "int feed(int)", "int hut()", "int told(int)",
        "int pass(int)", "int on(int,int)", "int done(int)", "int night(int)", "int placed(int,int)", "int change()",
        "int logs(int,int)", "int see(int,int,int)", "int wets(int,int)", "int can(int,int)", "int where(int)",
        "long odds(int,int,int)", "long mean(int,int)", "int rota(int,int)", "int ends(int)", "int book(int,int)",
        "int looked()", "int judge(int,int)", "int image()", "int undo()", "int act(int,int,int)", "int trace(int)",
        "int taken(int,int)", "int count(int)", "int tape(int,int,int)", "int item(int,int,long)", "long read(int,int)",
        "int shift(int,int,int,int,int)"};
    private static final String[] RULED_OUT = {
        "\\bthrow\\b", "\\btry\\b", "\\bcatch\\b", "\\bsynchronized\\b", "\\bassert\\b", "->", "::", "\\bSystem\\.(?!arraycopy)",
        "\\bRandom\\b", "\\bThread\\b", "\\bprotected\\b", "\\bhashCode\\b", "\\btoString\\b", "Exact\\(", "\\bvar\\b", "^package"};

    public static void main(String[] args) throws Exception {
        constants();
        face();
        check.due("a class that is public and final", BootsStove.class.getModifiers(), Modifier.PUBLIC | Modifier.FINAL);
        check.due("one constructor", BootsStove.class.getDeclaredConstructors().length, 1);
        check.due("it is public", BootsStove.class.getConstructor().getModifiers(), Modifier.PUBLIC);
        sizes();
        if (args.length > 0) {
            language(Files.readString(Path.of(args[0]), StandardCharsets.ISO_8859_1));
        }
        check.end("FaceTest");
    }

    private static void constants() throws Exception {
        check.due("NONE", BootsStove.NONE, -1);
        check.due("BAD", BootsStove.BAD, -2);
        check.due("STATE", BootsStove.STATE, -3);
        check.due("FULL", BootsStove.FULL, -4);
        check.due("NO", BootsStove.NO, Long.MIN_VALUE);
        int open = 0;
        for (Field f : BootsStove.class.getDeclaredFields()) {
            open += Modifier.isPrivate(f.getModifiers()) ? 0 : 1;
        }
        check.due("constants that can be seen", open, 5);
    }

    private static void face() {
        TreeSet<String> due = new TreeSet<>(Arrays.asList(FACE));
        TreeSet<String> names = new TreeSet<>();
        for (String call : FACE) {
            names.add(call.substring(call.indexOf(' ') + 1, call.indexOf('(')));
        }
        TreeSet<String> got = new TreeSet<>();
        for (Method m : BootsStove.class.getDeclaredMethods()) {
            if (Modifier.isPrivate(m.getModifiers())) {
                check.due("a private method with a public name: " + m, names.contains(m.getName()) ? 1 : 0, 0);
            } else {
                String types = Arrays.toString(m.getParameterTypes()).replaceAll("[\\[\\] ]", "");
                got.add(m.getReturnType() + " " + m.getName() + "(" + types + ")");
                check.due("public: " + m, m.getModifiers(), Modifier.PUBLIC);
            }
        }
        check.due("the face is " + got, got.equals(due) ? 1 : 0, 1);
        for (Class<?> inside : BootsStove.class.getDeclaredClasses()) {
            int open = inside.getModifiers() & (Modifier.PUBLIC | Modifier.PROTECTED);
            check.due("a class inside that is open: " + inside, open, 0);
            check.due("a class inside that is static: " + inside, Modifier.isStatic(inside.getModifiers()) ? 1 : 0, 1);
        }
    }

    /** Rules 2, 5 and 11: the classes, their fields, what a method takes. */
    private static void sizes() {
        Class<?>[] inside = BootsStove.class.getDeclaredClasses();
        check.due("rule 11: classes, above 12", Math.max(12, inside.length + 1), 12);
        fieldsAndMethods(BootsStove.class);
        for (Class<?> one : inside) {
            check.due("rule 2: classes inside " + one, one.getDeclaredClasses().length, 0);
            fieldsAndMethods(one);
        }
    }

    private static void fieldsAndMethods(Class<?> one) {
        int fields = 0;
        for (Field f : one.getDeclaredFields()) {
            if (Modifier.isStatic(f.getModifiers())) {
                boolean isConstant = Modifier.isFinal(f.getModifiers()) && (f.getType() == int.class || f.getType() == long.class);
                check.due("rule 5: static state " + f, isConstant ? 0 : 1, 0);
            } else {
                fields++;
            }
        }
        check.due("rule 11: fields of " + one + ", above 20", Math.max(20, fields), 20);
        for (Method m : one.getDeclaredMethods()) {
            check.due("rule 11: what " + m + " takes, above 7", Math.max(7, m.getParameterCount()), 7);
        }
    }

    private static void language(String source) {
        methodLengths(source.split("\n"));
        String code = Pattern.compile("/\\*.*?\\*/", Pattern.DOTALL).matcher(source).replaceAll("").replaceAll("//[^\n]*", "");
        for (String ruledOut : RULED_OUT) {
            boolean isThere = Pattern.compile(ruledOut, Pattern.MULTILINE).matcher(code).find();
            check.due("LANGUAGE.md rules out " + ruledOut, isThere ? 1 : 0, 0);
        }
        for (String line : code.split("\n")) {
            boolean isOther = line.startsWith("import ") && !line.equals("import java.util.Arrays;");
            check.due(line, isOther ? 1 : 0, 0);
        }
    }

    private static void methodLengths(String[] lines) {
        int begun = 0;
        int methods = 0;
        for (int i = 0; i < lines.length; i++) {
            // a method of the class stands 4 in, one of a class inside 8; what ends a block there is shorter
            boolean isHead = lines[i].matches("( {4}| {8})[a-zA-Z].*\\) \\{") && !lines[i].matches(" *(if|for|while|switch) .*");
            if (isHead) {
                begun = i;
                methods++;
            }
            boolean isEnd = lines[i].equals("    }") || lines[i].equals("        }");
            if (isEnd) {
                check.due("rule 11: lines of " + lines[begun].trim() + ", above 60", Math.max(60, i - begun + 1), 60);
            }
        }
        check.due("methods found", methods > 40 ? 1 : 0, 1);
    }
}
