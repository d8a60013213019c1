import java.io.IOException;
import java.lang.reflect.Constructor;
import java.lang.reflect.Field;
import java.lang.reflect.Method;
import java.lang.reflect.Modifier;
import java.nio.file.Files;
import java.nio.file.Path;
import java.util.Arrays;
import java.util.List;
import java.util.Set;
import java.util.TreeSet;
import java.util.regex.Matcher;
import java.util.regex.Pattern;

/** The face of the class, and those rules of LANGUAGE.md that its text can be asked for. */
public final class LanguageTest {
    private static final String[] FACE = {"int child(int, int, int)", "int of(int, int)", "int elder(int, int)", "int fits(int, int, int)",
        "int know(int, int)", "int basket(int, int)", "int take(int, int)", "int set(int, int, int)", "int forget(int)", "int bar(int)",
        "int row(int, int, int)", "int feed(int)", "int valley()", "int told(int)", "int pass(int)", "int on(int, int)",
        "int teach(int, int, int)", "int hear(int, int, int)", "int can(int, int)", "long odds(int, int, int)", "long mean(int, int)",
        "int plan(int, int)", "int ends(int)", "int book(int, int)", "int looked()", "int judge(int, int)", "int image()", "int undo()",
        "int act(int, int, int)", "int trace(int)", "int taken(int, int)", "int count(int)", "int tape(int, int, int)",
        "int item(int, int, long)", "long read(int, int)", "int shift(int, int, int, int, int)"};
    private static final String[] FORBIDDEN = {"throw", "throws", "try", "catch", "finally", "synchronized", "assert", "package", "native",
        "volatile", "double", "float", "Object", "Random", "Thread", "Exception", "equals", "hashCode", "toString", "var", "yield", "->", "::",
        "@", "..."};

    public static void main(String[] args) throws IOException {
        face();
        constants();
        String code = withoutWords(Files.readString(Path.of("src/main/java/NamingElders.java")));
        words(code);
        sizes(code);
        Expect.finish("LanguageTest");
    }

    private static void face() {
        Class<?> c = NamingElders.class;
        Expect.due("public and final", c.getModifiers(), Modifier.PUBLIC | Modifier.FINAL);
        Constructor<?>[] made = c.getDeclaredConstructors();
        Expect.due("one constructor", made.length, 1);
        Expect.due("it is public", made[0].getModifiers(), Modifier.PUBLIC);
        Set<String> want = new TreeSet<>(Arrays.asList(FACE)), got = new TreeSet<>(), names = new TreeSet<>();
        for (Method m : c.getDeclaredMethods()) {
            if (Modifier.isPrivate(m.getModifiers())) continue;
            Expect.due("public: " + m.getName(), m.getModifiers(), Modifier.PUBLIC);
            String kinds = Arrays.toString(m.getParameterTypes());
            got.add(m.getReturnType() + " " + m.getName() + "(" + kinds.substring(1, kinds.length() - 1) + ")");
            names.add(m.getName());
        }
        Expect.due("the face is the document's: " + got, got.equals(want) ? 1 : 0, 1);
        noPrivateMethodIsNamedSo(c, names);
        for (Class<?> inside : c.getDeclaredClasses()) {
            Expect.due("static: " + inside, Modifier.isStatic(inside.getModifiers()) ? 1 : 0, 1);
            Expect.due("hidden: " + inside, inside.getModifiers() & (Modifier.PUBLIC | Modifier.PROTECTED), 0);
            noPrivateMethodIsNamedSo(inside, names);
        }
    }

    private static void noPrivateMethodIsNamedSo(Class<?> c, Set<String> names) {
        for (Method m : c.getDeclaredMethods()) {
            boolean bears = !Modifier.isPublic(m.getModifiers()) && names.contains(m.getName());
            Expect.due("bears a public name: " + m, bears ? 1 : 0, 0);
            Expect.due("at most seven parameters: " + m, m.getParameterCount() > 7 ? 1 : 0, 0);
        }
    }

    private static void constants() {
        Expect.due("NONE", NamingElders.NONE, -1);
        Expect.due("BAD", NamingElders.BAD, -2);
        Expect.due("STATE", NamingElders.STATE, -3);
        Expect.due("FULL", NamingElders.FULL, -4);
        Expect.due("NO", NamingElders.NO, Long.MIN_VALUE);
        List<String> shown = List.of("NONE", "BAD", "STATE", "FULL", "NO");
        int fields = 0;
        for (Field f : NamingElders.class.getDeclaredFields()) {
            boolean isPublic = Modifier.isPublic(f.getModifiers()), isStatic = Modifier.isStatic(f.getModifiers());
            Expect.due("seen from outside: " + f, isPublic ? 1 : 0, shown.contains(f.getName()) ? 1 : 0);
            Expect.due("hidden otherwise: " + f, isPublic || Modifier.isPrivate(f.getModifiers()) ? 1 : 0, 1);
            if (isStatic) Expect.due("final: " + f, Modifier.isFinal(f.getModifiers()) ? 1 : 0, 1);
            if (!isStatic) fields++;
        }
        Expect.due("some twenty fields: " + fields, fields > 20 ? 1 : 0, 0);
        Expect.due("some twelve classes", NamingElders.class.getDeclaredClasses().length > 11 ? 1 : 0, 0);
    }

    /** The code without its comments, and with its texts and signs emptied. */
    private static String withoutWords(String code) {
        String signs = "\"(?:[^\"\\\\]|\\\\.)*\"|'(?:[^'\\\\]|\\\\.)*'|//[^\n]*|/\\*(?s:.*?)\\*/";
        return Pattern.compile(signs).matcher(code).replaceAll("''");
    }

    private static void words(String code) {
        for (String word : FORBIDDEN) {
            String found = Character.isLetter(word.charAt(0)) ? "\\b" + word + "\\b" : Pattern.quote(word);
            Expect.due("forbidden: " + word, Pattern.compile(found).matcher(code).find() ? 1 : 0, 0);
        }
        Matcher imports = Pattern.compile("import ([^;]*);").matcher(code);
        while (imports.find()) {
            Expect.due("import " + imports.group(1), imports.group(1).equals("java.util.Arrays") ? 1 : 0, 1);
        }
        Matcher library = Pattern.compile("\\b(System|Arrays|Integer|Long|Math)\\.(\\w+)").matcher(code);
        Set<String> allowed = Set.of("System.arraycopy", "Arrays.fill", "Integer.bitCount", "Long.MIN_VALUE");
        while (library.find()) {
            Expect.due("library: " + library.group(), allowed.contains(library.group()) ? 1 : 0, 1);
        }
        for (char sign : code.toCharArray()) {
            if (sign > 126) Expect.due("a sign of the code", sign, 126);
        }
    }

    /** Methods are what stands at four or eight blanks, opens a brace, and closes it at as many. */
    private static void sizes(String code) {
        String[] lines = code.split("\n");
        for (int i = 0; i < lines.length; i++) {
            Matcher opens = Pattern.compile("( {4}| {8})\\S.*\\) \\{").matcher(lines[i]);
            if (!opens.matches()) continue;
            int length = 1;
            while (i + length < lines.length && !lines[i + length].equals(opens.group(1) + "}")) {
                length++;
            }
            Expect.due("at most sixty lines: " + lines[i].trim(), length > 59 ? 1 : 0, 0);
        }
    }
}
