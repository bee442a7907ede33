import java.lang.reflect.Field;
import java.lang.reflect.Method;
import java.lang.reflect.Modifier;
import java.nio.charset.StandardCharsets;
import java.nio.file.Files;
import java.nio.file.Path;
import java.util.ArrayList;
import java.util.HashSet;
import java.util.List;
import java.util.Set;
import java.util.regex.Matcher;
import java.util.regex.Pattern;

/** What can be seen of LANGUAGE.md in the source's own text; it is run from the project's folder. */
public final class BreadMapSource {
    private static int wrong = 0;

    private static void complain(String what) {
        wrong++;
        System.out.println(what);
    }

    public static void main(String[] args) throws Exception {
        String source = new String(Files.readAllBytes(Path.of("src/main/java/BreadMap.java")), StandardCharsets.UTF_8);
        String code = source.replaceAll("(?s)/\\*.*?\\*/", "").replaceAll("//[^\n]*", "").replaceAll("\"[^\"\n]*\"", "\"\"");
        forbid(code, "throw|throws|try|catch|finally|synchronized|assert|goto|native|transient|volatile|strictfp|protected|package",
            "rules 1 and 6");
        forbid(code, "Exception|Error|Object|Scanner|Random|System\\.(?!arraycopy)|Thread|Collections|Optional|Stream|Map|Set",
            "rule 4");
        forbid(code, "equals|hashCode|toString|getClass|hashCode", "rule 6");
        forbid(code, "\\w+Exact", "rule 4");
        if (code.contains("->") || code.contains("::")) {
            complain("rule 2: a lambda, or a method reference");
        }
        imports(code);
        constants(code);
        classes(code);
        methods(source);
        members();
        System.out.println(wrong == 0 ? "the source keeps to what was looked at" : wrong + " places do not");
        if (wrong != 0) {
            System.exit(1);
        }
    }

    /** Rules 1, 3 and 11, by the classes as they were compiled. */
    private static void members() {
        Set<String> face = new HashSet<>();
        for (Method m : BreadMap.class.getDeclaredMethods()) {
            if (Modifier.isPublic(m.getModifiers())) {
                face.add(m.getName());
            }
        }
        List<Class<?>> all = new ArrayList<>(List.of(BreadMap.class.getDeclaredClasses()));
        all.add(BreadMap.class);
        for (Class<?> c : all) {
            for (Method m : c.getDeclaredMethods()) {
                if ((c != BreadMap.class || !Modifier.isPublic(m.getModifiers())) && face.contains(m.getName())) {
                    complain("rule 1: " + c.getSimpleName() + "." + m.getName() + " bears the name of a public one");
                }
            }
            int fields = 0;
            for (Field f : c.getDeclaredFields()) {
                fields += Modifier.isStatic(f.getModifiers()) ? 0 : 1;
                if (Modifier.isStatic(f.getModifiers()) && !Modifier.isFinal(f.getModifiers()) && !f.getName().startsWith("$")) {
                    complain("rule 5: " + c.getSimpleName() + "." + f.getName() + " is not final");
                }
            }
            if (fields > 20) {
                complain("rule 11: " + c.getSimpleName() + " has " + fields + " fields");
            }
        }
    }

    private static void forbid(String code, String words, String rule) {
        Matcher m = Pattern.compile("\\b(" + words + ")\\b").matcher(code);
        while (m.find()) {
            complain(rule + ": " + m.group());
        }
    }

    private static void imports(String code) {
        Matcher m = Pattern.compile("(?m)^import (.*);").matcher(code);
        while (m.find()) {
            if (!m.group(1).equals("java.util.Arrays")) {
                complain("rule 4: import " + m.group(1));
            }
        }
    }

    private static void constants(String code) {
        Matcher m = Pattern.compile("(?m)^ +(?:public |private )?static (?!final )[^()\n]*[;=]").matcher(code);
        while (m.find()) {
            complain("rule 5: " + m.group().trim());
        }
        for (char c : code.toCharArray()) {
            if (c > 126) {
                complain("rule 4: a sign above 126");
            }
        }
    }

    private static void classes(String code) {
        Matcher m = Pattern.compile("(?m)^ *(.*)\\b(class|enum|record|interface) (\\w+)").matcher(code);
        int classes = 0;
        while (m.find()) {
            classes++;
            if (!m.group(3).equals("BreadMap") && !m.group(1).contains("static")) {
                complain("rule 2: " + m.group(3) + " is not static");
            }
        }
        if (classes > 12) {
            complain("rule 11: " + classes + " classes");
        }
    }

    /** A method begins where a line has its head and ends where its brace does, as far to the right. */
    private static void methods(String source) {
        String[] lines = source.split("\n");
        Pattern head = Pattern.compile("^( ++)(?:[\\w\\[\\]<>]+ )*(\\w+)\\((.*)\\) \\{$");
        for (int i = 0; i < lines.length; i++) {
            Matcher m = head.matcher(lines[i]);
            if (!m.matches() || m.group(2).matches("if|for|while|switch")) {
                continue;
            }
            int end = i;
            while (end < lines.length && !lines[end].equals(m.group(1) + "}")) {
                end++;
            }
            if (end - i > 60) {
                complain("rule 11: " + m.group(2) + " has " + (end - i) + " lines");
            }
            if (m.group(3).split(",").length > 7) {
                complain("rule 11: " + m.group(2) + " has too many parameters");
            }
        }
    }
}
