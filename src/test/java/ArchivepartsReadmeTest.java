import java.io.ByteArrayOutputStream;
import java.io.PrintStream;
import java.net.URL;
import java.net.URLClassLoader;
import java.nio.charset.StandardCharsets;
import java.nio.file.Files;
import java.nio.file.Path;
import java.util.Comparator;
import java.util.List;
import java.util.stream.Collectors;
import java.util.stream.Stream;
import javax.tools.JavaCompiler;
import javax.tools.ToolProvider;

/** Compiles the example of README.md as it stands there, runs it, and compares what it prints with README.md. */
public final class ArchivepartsReadmeTest {
    private static final String PROGRAM = "src/main/java/Archiveparts.java";
    private static final String FENCE = "```";

    public static void main(String[] args) throws Exception {
        String readme = Files.readString(Path.of("README.md"));
        String want = block(readme, "text").strip();
        Path folder = Files.createTempDirectory("readme");
        String got;
        try {
            got = printedBy(block(readme, "java"), folder).strip();
        } finally {
            remove(folder);
        }
        boolean holds = !want.isEmpty() && got.lines().collect(Collectors.toList()).equals(want.lines().collect(Collectors.toList()));
        System.out.println(holds ? "readme: the example holds" : "readme: the example printed\n" + got + "\ndue is\n" + want);
        boolean isComplete = namesEachCall(readme);
        if (!holds || !isComplete) {
            System.exit(1);
        }
    }

    private static String block(String text, String language) {
        String open = "\n" + FENCE + language + "\n";
        int start = text.indexOf(open);
        int end = start < 0 ? -1 : text.indexOf("\n" + FENCE, start + open.length());
        if (end < 0) {
            throw new IllegalStateException("README.md has no block of " + language);
        }
        return text.substring(start + open.length(), end + 1);
    }

    private static String printedBy(String example, Path folder) throws Exception {
        Path source = folder.resolve("Example.java");
        Files.writeString(source, example);
        JavaCompiler compiler = ToolProvider.getSystemJavaCompiler();
        int result = compiler.run(null, null, null, "-d", folder.toString(), PROGRAM, source.toString());
        if (result != 0) {
            return "(the example does not compile)";
        }
        PrintStream before = System.out;
        ByteArrayOutputStream printed = new ByteArrayOutputStream();
        URL[] from = {folder.toUri().toURL()};
        try (URLClassLoader loader = new URLClassLoader(from, ClassLoader.getPlatformClassLoader())) {
            System.setOut(new PrintStream(printed, true, "UTF-8"));
            loader.loadClass("Example").getMethod("main", String[].class).invoke(null, (Object) new String[0]);
        } finally {
            System.setOut(before);
        }
        return printed.toString(StandardCharsets.UTF_8);
    }

    /** The table of README.md names each method of the face. */
    private static boolean namesEachCall(String readme) {
        boolean isComplete = true;
        String table = readme.lines().filter(line -> line.startsWith("| ")).collect(Collectors.joining("\n"));
        for (java.lang.reflect.Method each : Archiveparts.class.getDeclaredMethods()) {
            boolean isOfFace = java.lang.reflect.Modifier.isPublic(each.getModifiers());
            if (isOfFace && !table.contains("`" + each.getName() + "`")) {
                System.out.println("readme: the table does not name " + each.getName());
                isComplete = false;
            }
        }
        return isComplete;
    }

    private static void remove(Path folder) throws Exception {
        try (Stream<Path> all = Files.walk(folder)) {
            List<Path> paths = all.sorted(Comparator.reverseOrder()).collect(Collectors.toList());
            for (Path each : paths) {
                Files.delete(each);
            }
        }
    }
}
