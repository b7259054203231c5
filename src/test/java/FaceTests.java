import java.lang.reflect.Constructor;
import java.lang.reflect.Field;
import java.lang.reflect.Method;
import java.lang.reflect.Modifier;
import java.nio.file.Files;
import java.nio.file.Path;
import java.util.ArrayList;
import java.util.List;
import java.util.TreeSet;
import java.util.regex.Matcher;
import java.util.regex.Pattern;

// The public face as the document has it, and what of LANGUAGE.md can be seen from outside.
public final class FaceTests {
    private static final Path DOCUMENT = Path.of("../shared/DOC.md");
    private static final Path SOURCE = Path.of("src/main/java/EchoCouncil.java");

    public static void main(String[] args) throws Exception {
        face();
        otherMembers();
        source();
        Due.end();
    }

    private static void face() throws Exception {
        String document = Files.readString(DOCUMENT);
        String block = document.substring(document.indexOf("public final class"), document.indexOf("## Terms"));
        TreeSet<String> due = new TreeSet<>();
        Matcher matcher = Pattern.compile("public (\\w+) (\\w+)\\(([^)]*)\\)([^;]*);").matcher(block);
        while (matcher.find()) {
            String types = matcher.group(3).replaceAll("(\\w+) \\w+", "$1").replace(" ", "");
            String thrown = matcher.group(4).replace("throws", "").replace(" ", "");
            due.add(matcher.group(1) + " " + matcher.group(2) + "(" + types + ") " + thrown);
        }
        TreeSet<String> got = new TreeSet<>();
        for (Method method : EchoCouncil.class.getDeclaredMethods()) {
            if (Modifier.isPublic(method.getModifiers())) {
                got.add(method.getReturnType() + " " + method.getName() + "(" + names(method.getParameterTypes())
                    + ") " + names(method.getExceptionTypes()));
            }
        }
        Due.same("the number of methods in the document", 43, due.size());
        Due.same("the methods", due, got);
        Constructor<?>[] constructors = EchoCouncil.class.getDeclaredConstructors();
        Due.same("the number of constructors", 1, constructors.length);
        Due.same("the constructor's parameters", 0, constructors[0].getParameterCount());
        Due.same("the constructor is public", true, Modifier.isPublic(constructors[0].getModifiers()));
        Due.same("the class", Modifier.PUBLIC | Modifier.FINAL, EchoCouncil.class.getModifiers());
    }

    private static String names(Class<?>[] types) {
        List<String> names = new ArrayList<>();
        for (Class<?> type : types) {
            names.add(type.getSimpleName());
        }
        return String.join(",", names);
    }

    private static void otherMembers() {
        TreeSet<String> face = new TreeSet<>();
        for (Method method : EchoCouncil.class.getDeclaredMethods()) {
            if (Modifier.isPublic(method.getModifiers())) {
                face.add(method.getName());
            }
        }
        for (Method method : EchoCouncil.class.getDeclaredMethods()) {
            if (!Modifier.isPublic(method.getModifiers())) {
                Due.same(method + " is private", true, Modifier.isPrivate(method.getModifiers()));
                Due.same(method + " has its own name", false, face.contains(method.getName()));
            }
        }
        for (Field field : EchoCouncil.class.getDeclaredFields()) {
            Due.same(field + " is private", true, Modifier.isPrivate(field.getModifiers()));
        }
        for (Class<?> inside : EchoCouncil.class.getDeclaredClasses()) {
            Due.same(inside + " is static", true, Modifier.isStatic(inside.getModifiers()));
            for (Method method : inside.getDeclaredMethods()) {
                Due.same(method + " has its own name", false, face.contains(method.getName()));
            }
            for (Field field : inside.getDeclaredFields()) {
                int modifiers = field.getModifiers();
                Due.same(field + " is final if static", true, !Modifier.isStatic(modifiers) || Modifier.isFinal(modifiers));
            }
        }
        Due.same("at most twelve classes", true, EchoCouncil.class.getDeclaredClasses().length < 12);
    }

    // Words and signs that LANGUAGE.md leaves out, and methods that got too long.
    private static void source() throws Exception {
        List<String> lines = Files.readAllLines(SOURCE);
        String[] words = {"->", "::", "try", "catch", "finally", "synchronized", "assert", "package", "instanceof", "System.out", "Random", "Exact(", "equals(", "hashCode", "toString", "\\u", "static {"};
        int start = 0;
        for (int number = 0; number < lines.size(); number++) {
            String code = lines.get(number).replaceAll("//.*", "");
            for (String word : words) {
                Due.same("line " + (number + 1) + " has " + word, false, code.contains(word));
            }
            if (code.matches(" {4,8}[a-zA-Z].*\\) ?(throws [\\w, ]+)?\\{")) {
                start = number;
            }
            if (code.matches(" {4,8}\\}")) {
                Due.same("the method at line " + (start + 1) + " is short", true, number - start < 60 || start == 0);
            }
        }
    }
}
