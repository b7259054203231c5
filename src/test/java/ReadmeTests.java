import java.io.StringWriter;
import java.lang.reflect.Method;
import java.net.URI;
import java.nio.file.Files;
import java.nio.file.Path;
import java.util.List;
import java.util.regex.Matcher;
import java.util.regex.Pattern;
import javax.tools.JavaCompiler;
import javax.tools.JavaFileObject;
import javax.tools.SimpleJavaFileObject;
import javax.tools.ToolProvider;

// The example of README.md is a program of which each answer is told behind its call; it is made a
// test here, so that the file cannot tell what the class does not do.
public final class ReadmeTests {
    private static final Path README = Path.of("README.md");
    private static final Pattern TOLD = Pattern.compile("((?:council|line)\\..*);\\s*// (throws (\\w+)|[^:\\s]+).*");

    public static void main(String[] args) throws Exception {
        String readme = Files.readString(README);
        namesEachMethod(readme);
        example(readme);
        Due.end();
    }

    private static void namesEachMethod(String readme) {
        for (Method method : EchoCouncil.class.getMethods()) {
            if (method.getDeclaringClass() == EchoCouncil.class) {
                Due.same("README.md tells " + method.getName(), true, readme.contains("`" + method.getName() + "`"));
            }
        }
    }

    private static void example(String readme) throws Exception {
        StringBuilder program = new StringBuilder("public final class ReadmeExample {\n    public static void main(String[] args) {\n");
        int told = 0;
        Matcher block = Pattern.compile("```java\n(.*?)```", Pattern.DOTALL).matcher(readme);
        while (block.find()) {
            for (String line : block.group(1).split("\n")) {
                Matcher call = TOLD.matcher(line);
                Due.same("README.md tells an answer: " + line, line.contains("//"), call.matches());
                told += call.matches() ? 1 : 0;
                program.append(call.matches() ? check(call) : line).append('\n');
            }
        }
        Due.same("answers are told in README.md", true, told > 0);
        runIt(program.append("    }\n}\n").toString());
    }

    private static String check(Matcher told) {
        String call = told.group(1);
        if (told.group(3) != null) {
            return "Due.thrown(\"README.md: " + call + "\", " + told.group(3) + ".class, () -> " + call + ");";
        }
        return "Due.same(\"README.md: " + call + "\", \"" + told.group(2) + "\", String.valueOf(" + call + "));";
    }

    // Beside the class itself, so that the program is loaded as one that was compiled with it.
    private static void runIt(String program) throws Exception {
        Path folder = Path.of(EchoCouncil.class.getProtectionDomain().getCodeSource().getLocation().toURI());
        JavaCompiler compiler = ToolProvider.getSystemJavaCompiler();
        List<String> options = List.of("-d", folder.toString(), "-cp", folder.toString());
        StringWriter said = new StringWriter();
        boolean isCompiled = compiler.getTask(said, null, null, options, null, List.of(new Source(program))).call();
        Due.same("the example compiles: " + said, true, isCompiled);
        if (isCompiled) {
            Class.forName("ReadmeExample").getMethod("main", String[].class).invoke(null, (Object) new String[0]);
        }
    }

    private static final class Source extends SimpleJavaFileObject {
        private final String program;

        Source(String program) {
            super(URI.create("string:///ReadmeExample.java"), JavaFileObject.Kind.SOURCE);
            this.program = program;
        }

        @Override
        public CharSequence getCharContent(boolean ignoresFaults) {
            return program;
        }
    }
}
