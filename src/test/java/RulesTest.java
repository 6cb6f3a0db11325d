import java.io.IOException;
import java.lang.reflect.Constructor;
import java.lang.reflect.Field;
import java.lang.reflect.Method;
import java.lang.reflect.Modifier;
import java.nio.charset.StandardCharsets;
import java.nio.file.Files;
import java.nio.file.Path;
import java.util.ArrayList;
import java.util.Arrays;
import java.util.List;
import java.util.TreeSet;
import java.util.regex.Matcher;
import java.util.regex.Pattern;

/** What of LANGUAGE.md can be seen from the class itself and from its text. It is run in the project's folder. */
public final class RulesTest {
    private static final String FACE = "int feed(int,int,int,int,int) boolean end(int) int opera() int fault(int) int has(int) "
        + "int letter(int,int,int) int desk(int,int) int deep(int,int) int cell(int,int) int sums(int,int) int led(int,int) "
        + "int boat(int,int,boolean) int first(int,int) int turning(int,int) int mark(int,int,int,boolean) int teach(int) "
        + "boolean undo() int stop(int,int,int) int bring(int,int,int) boolean wet() int early(int,int) int encore(int,int) "
        + "int trout(int,int,int) boolean seed(int) long ask() int image() int octet(int) boolean on()";
    private static final int MOST_CLASSES = 12;
    private static final int MOST_FIELDS = 20;
    private static final int MOST_LINES = 60;
    private static final int MOST_PARAMETERS = 7;
    private static int wrong = 0;

    public static void main(String[] args) throws IOException {
        face();
        List<Class<?>> classes = new ArrayList<>(List.of(SluicePit.class.getDeclaredClasses()));
        classes.add(SluicePit.class);
        if (classes.size() > MOST_CLASSES) bad("11: classes: " + classes.size());
        for (Class<?> c : classes) members(c);
        String text = Files.readString(Path.of("src/main/java/SluicePit.java"), StandardCharsets.ISO_8859_1);
        words(text);
        lengths(text);
        System.out.println(wrong == 0 ? "the rules that can be seen are kept" : wrong + " rules broken");
        if (wrong != 0) System.exit(1);
    }

    private static void bad(String what) {
        wrong++;
        System.out.println("rule " + what);
    }

    private static String signature(Method m) {
        StringBuilder b = new StringBuilder(m.getReturnType() + " " + m.getName() + "(");
        for (Class<?> p : m.getParameterTypes()) b.append(p).append(',');
        if (m.getParameterCount() > 0) b.setLength(b.length() - 1);
        return b.append(")").toString();
    }

    private static void face() {
        TreeSet<String> due = new TreeSet<>();
        Matcher m = Pattern.compile("\\w+ \\w+\\([^)]*\\)").matcher(FACE);
        while (m.find()) due.add(m.group());
        TreeSet<String> got = new TreeSet<>();
        for (Method one : SluicePit.class.getDeclaredMethods()) {
            int how = one.getModifiers();
            if (Modifier.isPrivate(how)) continue;
            if (Modifier.isPublic(how) && !Modifier.isStatic(how)) got.add(signature(one));
            else bad("1: " + one);
        }
        if (!got.equals(due)) bad("1: the face is " + got);
        for (Field one : SluicePit.class.getDeclaredFields()) {
            boolean told = one.getName().equals("NONE") || one.getName().equals("NOTHING");
            if (Modifier.isPublic(one.getModifiers()) != told || !told && !Modifier.isPrivate(one.getModifiers())) bad("1: " + one);
        }
        Constructor<?>[] made = SluicePit.class.getDeclaredConstructors();
        if (made.length != 1 || made[0].getParameterCount() != 0 || !Modifier.isPublic(made[0].getModifiers())) bad("1: constructors");
    }

    private static void members(Class<?> c) {
        TreeSet<String> names = new TreeSet<>();
        for (Method one : SluicePit.class.getDeclaredMethods()) if (Modifier.isPublic(one.getModifiers())) names.add(one.getName());
        for (Method one : c.getDeclaredMethods()) {
            if (one.isSynthetic()) bad("2: " + one);
            if (!Modifier.isPublic(one.getModifiers()) && names.contains(one.getName())) bad("1: " + one);
            if (one.getParameterCount() > MOST_PARAMETERS) bad("11: " + one);
            if (List.of("equals", "hashCode", "toString").contains(one.getName())) bad("6: " + one);
        }
        if (c != SluicePit.class && (!Modifier.isStatic(c.getModifiers()) || Modifier.isPublic(c.getModifiers()))) bad("2: " + c);
        int fields = 0;
        for (Field one : c.getDeclaredFields()) {
            if (!Modifier.isStatic(one.getModifiers())) fields++;
            else if (!Modifier.isFinal(one.getModifiers())) bad("5: " + one);
        }
        if (fields > MOST_FIELDS) bad("11: fields of " + c + ": " + fields);
        if (c.getDeclaredClasses().length > 0 && c != SluicePit.class) bad("2: classes in " + c);
    }

    private static void words(String text) {
        for (char sign : text.toCharArray()) if (sign > 126 || sign < 32 && sign != '\n') bad("4: sign " + (int) sign);
        String code = text.replaceAll("//[^\n]*", "").replaceAll("(?s)/\\*.*?\\*/", "").replaceAll("\"[^\"\n]*\"", "\"\"");
        String[] never = {"throw", "throws", "try", "catch", "finally", "synchronized", "assert", "var", "float", "double", "System",
            "Exact", "Thread", "Random", "goto", "record", "native", "volatile", "transient", "Object", "yield"};
        for (String word : never) if (Pattern.compile("\\b" + word + "\\b").matcher(code).find()) bad("3, 4 or 6: " + word);
        for (String sign : new String[] {"->", "::", "@", "static {", "String[]", "while (true)", "for (;;)", "?."}) {
            if (code.contains(sign)) bad("2, 5 or 9: " + sign);
        }
        Matcher m = Pattern.compile("import ([\\w.]+);").matcher(code);
        while (m.find()) if (!List.of("java.util.Arrays", "java.util.ArrayList", "java.util.List").contains(m.group(1))) bad("4: " + m.group(1));
        if (code.contains("package ")) bad("1: a package");
    }

    // A method's or constructor's head stands on a line of its own, four or eight blanks in.
    private static void lengths(String text) {
        String[] lines = text.split("\n");
        Pattern head = Pattern.compile("^( {4}| {8})(?! )(?!private static final class|return|if|for|while|else)[\\w<>\\[\\]. ]*\\b(\\w+)\\([^;]*\\) \\{$");
        int seen = 0;
        for (int i = 0; i < lines.length; i++) {
            Matcher m = head.matcher(lines[i]);
            if (!m.find()) continue;
            seen++;
            int end = i;
            while (end < lines.length && !lines[end].equals(m.group(1) + "}")) end++;
            if (end - i + 1 > MOST_LINES) bad("11: " + (end - i + 1) + " lines: " + lines[i].trim());
            boolean constructor = Character.isUpperCase(m.group(2).charAt(0));
            for (String one : Arrays.copyOfRange(lines, i, end)) {
                if (!constructor && one.matches(".*\\bnew\\b.*") && !one.trim().startsWith("//")) bad("12: made in a call: " + one.trim());
            }
        }
        if (seen < 100) bad("11: only " + seen + " methods are seen by this test");
    }
}
