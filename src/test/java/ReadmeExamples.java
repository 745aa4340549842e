import java.io.IOException;
import java.lang.reflect.InvocationTargetException;
import java.lang.reflect.Method;
import java.lang.reflect.Modifier;
import java.net.URI;
import java.net.URL;
import java.net.URLClassLoader;
import java.nio.charset.StandardCharsets;
import java.nio.file.Files;
import java.nio.file.Path;
import java.util.ArrayList;
import java.util.Arrays;
import java.util.List;
import java.util.regex.Matcher;
import java.util.regex.Pattern;
import javax.tools.JavaCompiler;
import javax.tools.JavaFileObject;
import javax.tools.SimpleJavaFileObject;
import javax.tools.StandardJavaFileManager;
import javax.tools.ToolProvider;

/**
 * What README.md (the first argument) shows of calls and answers is so: its java blocks are made one
 * program, the first one its functions, the others what is done one behind the other. A number or a
 * word right behind // is the answer of the call ahead of it. The second argument is where the
 * program is put.
 */
public final class ReadmeExamples {
    private static final Pattern BLOCK = Pattern.compile("(?s)```java\n(.*?)```");
    private static final Pattern ANSWERED = Pattern.compile("^\\s*(\\w[\\w.]*\\(.*\\));\\s*// (-?\\d+|true|false)\\b.*$");
    private static int answers = 0;
    private static int wrong = 0;

    private ReadmeExamples() {
    }

    private static final class Source extends SimpleJavaFileObject {
        private final String text;

        Source(String text) {
            super(URI.create("string:///ReadmeProgram.java"), JavaFileObject.Kind.SOURCE);
            this.text = text;
        }

        @Override
        public CharSequence getCharContent(boolean ignoreErrors) {
            return text;
        }
    }

    /** What the program calls. */
    public static void due(String call, Object got, String want) {
        answers++;
        if (!want.equals(String.valueOf(got))) {
            wrong++;
            System.out.println("README: " + call + " answered " + got + ", it shows " + want);
        }
    }

    public static void main(String[] args) throws IOException, ReflectiveOperationException {
        String readme = Files.readString(Path.of(args[0]), StandardCharsets.UTF_8);
        List<String> blocks = new ArrayList<>();
        Matcher matcher = BLOCK.matcher(readme);
        while (matcher.find()) {
            blocks.add(matcher.group(1));
        }
        showsEachCall(String.join("", blocks));
        run(program(blocks), Path.of(args[1]));
        System.out.println("Readme: " + answers + " answers, " + wrong + " are not as shown");
        if (wrong != 0 || answers == 0) {
            System.exit(1);
        }
    }

    private static void showsEachCall(String code) {
        for (Method method : PactYears.class.getDeclaredMethods()) {
            if (Modifier.isPublic(method.getModifiers()) && !code.contains("pact." + method.getName() + "(")) {
                wrong++;
                System.out.println("README does not show " + method.getName());
            }
        }
    }

    private static String program(List<String> blocks) {
        StringBuilder text = new StringBuilder("public final class ReadmeProgram {\n");
        text.append(blocks.get(0)).append("public static void main(String[] args) {\n");
        for (String block : blocks.subList(1, blocks.size())) {
            for (String line : block.split("\n")) {
                Matcher answered = ANSWERED.matcher(line);
                if (answered.matches()) {
                    String call = answered.group(1);
                    String quoted = call.replace("\\", "\\\\").replace("\"", "\\\"");
                    text.append("ReadmeExamples.due(\"" + quoted + "\", " + call + ", \"" + answered.group(2) + "\");\n");
                } else {
                    text.append(line).append('\n');
                }
            }
        }
        return text.append("}\n}\n").toString();
    }

    private static void run(String program, Path into) throws IOException, ReflectiveOperationException {
        Files.createDirectories(into);
        JavaCompiler compiler = ToolProvider.getSystemJavaCompiler();
        try (StandardJavaFileManager files = compiler.getStandardFileManager(null, null, null)) {
            List<String> options = Arrays.asList("-d", into.toString(), "-cp", System.getProperty("java.class.path"));
            if (!compiler.getTask(null, files, null, options, null, List.of(new Source(program))).call()) {
                wrong++;
                System.out.println("README: what it shows does not compile");
                return;
            }
        }
        try (URLClassLoader loader = new URLClassLoader(new URL[] {into.toUri().toURL()})) {
            loader.loadClass("ReadmeProgram").getMethod("main", String[].class).invoke(null, (Object) new String[0]);
        } catch (InvocationTargetException thrown) {
            wrong++;
            System.out.println("README: what it shows threw " + thrown.getCause());
        }
    }
}
