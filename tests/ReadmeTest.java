import java.io.ByteArrayOutputStream;
import java.io.PrintStream;
import java.lang.reflect.Method;
import java.lang.reflect.Modifier;
import java.net.URL;
import java.net.URLClassLoader;
import java.nio.file.Files;
import java.nio.file.Path;
import java.util.Arrays;
import java.util.TreeSet;
import java.util.regex.Matcher;
import java.util.regex.Pattern;
import javax.tools.ToolProvider;

/**
 * README.md keeps its word: its example prints what it says, its table names each call by its promise;
 * and the class has the document's face, no more and no less. Run from the project's directory.
 */
public final class ReadmeTest extends Calls {
    private static final Path README = Path.of("README.md");
    private static final Path DOCUMENT = Path.of("../shared/DOC.md");

    public static void main(String[] args) throws Exception {
        String readme = Files.readString(README);
        String document = Files.readString(DOCUMENT);
        example(block(readme, "java"), block(readme, "text"));
        table(readme, document);
        face(block(document, "java"));
        finish("readme");
    }

    private static void same(String what, String got, String want) {
        due(what + ": '" + got + "' and '" + want + "' alike", got.equals(want), true);
    }

    /** The first block of this kind. */
    private static String block(String text, String kind) {
        Matcher block = Pattern.compile("```" + kind + "\n(.*?)```", Pattern.DOTALL).matcher(text);
        return block.find() ? block.group(1) : "";
    }

    private static void example(String code, String want) throws Exception {
        says("README: the example prints what it says");
        Path directory = Files.createTempDirectory("readme");
        Path source = directory.resolve("Example.java");
        Files.writeString(source, code);
        String classes = Path.of(SaddlerKnows.class.getProtectionDomain().getCodeSource().getLocation().toURI()).toString();
        int failed = ToolProvider.getSystemJavaCompiler().run(null, null, null,
            "-cp", classes, "-d", directory.toString(), source.toString());
        due("compiling it", failed, 0);
        if (failed == 0) {
            lines(printed(directory).split("\n"), want.split("\n"));
        }
        for (String name : new String[] {"Example.class", "Example.java"}) {
            Files.deleteIfExists(directory.resolve(name));
        }
        Files.deleteIfExists(directory);
    }

    private static String printed(Path directory) throws Exception {
        PrintStream out = System.out;
        ByteArrayOutputStream bytes = new ByteArrayOutputStream();
        try (URLClassLoader loader = new URLClassLoader(new URL[] {directory.toUri().toURL()})) {
            System.setOut(new PrintStream(bytes, true));
            loader.loadClass("Example").getMethod("main", String[].class).invoke(null, (Object) new String[0]);
        } finally {
            System.setOut(out);
        }
        return bytes.toString().replace("\r", "");
    }

    private static void lines(String[] got, String[] want) {
        due("how many lines", got.length, want.length);
        for (int k = 0; k < got.length && k < want.length; k++) {
            same("line " + k, got[k], want[k]);
        }
    }

    private static void table(String readme, String document) {
        says("README: the table names each call by its promise");
        Matcher promise = Pattern.compile("## Promise (\\d+): [^\n]*\n\n`[a-z]+ ([a-z]+)\\(").matcher(document);
        int promises = 0;
        while (promise.find()) {
            String named = "`" + promise.group(2) + "` (" + promise.group(1) + ")";
            due(named, readme.contains(named), true);
            promises++;
        }
        due("how many promises name a call", promises, 38);
    }

    /** Parameters' names are lost in the class, so that they are left out of both. */
    private static void face(String code) {
        says("The public face");
        TreeSet<String> want = new TreeSet<>();
        Matcher method = Pattern.compile("public (\\w+) (\\w+)\\(([^)]*)\\)(?: throws (\\w+))?;").matcher(code);
        while (method.find()) {
            String parameters = method.group(3).replaceAll(" \\w+(,|$)", "$1").replace(", ", ",");
            String fault = method.group(4) == null ? "" : " throws " + method.group(4);
            want.add(method.group(1) + " " + method.group(2) + "(" + parameters + ")" + fault);
        }
        TreeSet<String> got = new TreeSet<>();
        TreeSet<String> hidden = new TreeSet<>();
        for (Method m : SaddlerKnows.class.getDeclaredMethods()) {
            if (Modifier.isPrivate(m.getModifiers())) {
                hidden.add(m.getName());
            } else if (!m.isSynthetic()) {
                got.add(told(m));
            }
        }
        due("how many methods", got.size(), 38);
        same("the methods", got.toString(), want.toString());
        for (Method m : SaddlerKnows.class.getMethods()) {
            due("no private method bears the name of the public " + m.getName(), hidden.contains(m.getName()), false);
        }
        constants();
    }

    private static String told(Method m) {
        StringBuilder parameters = new StringBuilder();
        for (Class<?> parameter : m.getParameterTypes()) {
            parameters.append(parameters.length() > 0 ? "," : "").append(parameter.getSimpleName());
        }
        StringBuilder faults = new StringBuilder();
        for (Class<?> fault : m.getExceptionTypes()) {
            faults.append(" throws ").append(fault.getSimpleName());
        }
        return m.getReturnType().getSimpleName() + " " + m.getName() + "(" + parameters + ")" + faults;
    }

    private static void constants() {
        says("The constants");
        long open = Arrays.stream(SaddlerKnows.class.getDeclaredFields())
            .filter(f -> !Modifier.isPrivate(f.getModifiers())).count();
        due("how many members are no method", open, 2);
        due("how many constructors", SaddlerKnows.class.getDeclaredConstructors().length, 1);
        due("public and final", SaddlerKnows.class.getModifiers(), Modifier.PUBLIC | Modifier.FINAL);
        due("NONE", SaddlerKnows.NONE, NONE);
        due("HIDDEN", SaddlerKnows.HIDDEN, HIDDEN);
    }
}
