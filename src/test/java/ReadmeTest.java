import java.io.ByteArrayOutputStream;
import java.io.IOException;
import java.io.PrintStream;
import java.net.URL;
import java.net.URLClassLoader;
import java.nio.charset.StandardCharsets;
import java.nio.file.Files;
import java.nio.file.Path;
import java.util.ArrayList;
import java.util.List;
import java.util.regex.Matcher;
import java.util.regex.Pattern;
import java.util.stream.Stream;
import javax.tools.ToolProvider;

/** README.md is there; its example compiles and prints what it says; the way to run the tests is one that works. */
public final class ReadmeTest {
    private static final Path README = Path.of("README.md");

    public static void main(String[] args) throws Exception {
        boolean there = Files.isRegularFile(README);
        Check.is("README.md is there", there);
        if (there) {
            String text = Files.readString(README);
            runOfTests(text.substring(text.indexOf("## Tests") + 1));
            namesEachCall(text);
            example(text);
        }
        Check.close("ReadmeTest");
    }

    private static List<String> blocks(String text, String sort) {
        List<String> found = new ArrayList<>();
        Matcher m = Pattern.compile("^```" + sort + "\\n(.*?)^```$", Pattern.DOTALL | Pattern.MULTILINE).matcher(text);
        while (m.find()) {
            found.add(m.group(1));
        }
        return found;
    }

    /** This test itself is run by .ci/run, on a clean checkout too: so that is the way that works. */
    private static void runOfTests(String section) {
        Check.is("the way to run the tests is .ci/run: " + blocks(section, "sh"), blocks(section, "sh").equals(List.of(".ci/run\n")));
        Check.is(".ci/run can be run as it is", Files.isExecutable(Path.of(".ci/run")));
        Check.is("../shared/tests is where README.md says", section.contains("../shared") && Files.isDirectory(Path.of("../shared/tests")));
    }

    private static void namesEachCall(String text) {
        for (java.lang.reflect.Method method : SlipHeirs.class.getMethods()) {
            if (method.getDeclaringClass() == SlipHeirs.class) {
                Check.is("README.md names " + method.getName(), Pattern.compile("`" + method.getName() + "[`(]").matcher(text).find());
            }
        }
    }

    private static void example(String text) throws Exception {
        List<String> codes = blocks(text, "java");
        List<String> outputs = blocks(text, "text");
        Check.eq("examples", codes.size(), 1);
        Check.eq("outputs", outputs.size(), 1);
        Path folder = Files.createTempDirectory("readme");
        try {
            Path file = Files.writeString(folder.resolve("Example.java"), codes.get(0));
            int compiled = ToolProvider.getSystemJavaCompiler().run(null, null, null, "-Xlint:all", "-Werror", "-cp",
                System.getProperty("java.class.path"), "-d", folder.toString(), file.toString());
            Check.eq("compiling the example", compiled, 0);
            String printed = compiled == 0 ? printedBy(folder) : "";
            Check.is("the example prints\n" + printed, printed.equals(outputs.get(0)));
        } finally {
            remove(folder);
        }
    }

    private static String printedBy(Path folder) throws Exception {
        PrintStream ahead = System.out;
        ByteArrayOutputStream bytes = new ByteArrayOutputStream();
        try (URLClassLoader loader = new URLClassLoader(new URL[] {folder.toUri().toURL()}, ReadmeTest.class.getClassLoader());
             PrintStream out = new PrintStream(bytes, true, StandardCharsets.UTF_8)) {
            System.setOut(out);
            loader.loadClass("Example").getMethod("main", String[].class).invoke(null, (Object) new String[0]);
        } finally {
            System.setOut(ahead);
        }
        return bytes.toString(StandardCharsets.UTF_8).replace("\r\n", "\n");
    }

    private static void remove(Path folder) throws IOException {
        try (Stream<Path> files = Files.list(folder)) {
            for (Path file : files.toList()) {
                Files.delete(file);
            }
        }
        Files.delete(folder);
    }
}
