import java.io.IOException;
import java.lang.reflect.Method;
import java.lang.reflect.Modifier;
import java.net.URL;
import java.net.URLClassLoader;
import java.nio.file.Files;
import java.nio.file.Path;
import java.util.ArrayList;
import java.util.Comparator;
import java.util.List;
import java.util.Set;
import java.util.TreeSet;
import java.util.regex.Matcher;
import java.util.regex.Pattern;
import java.util.stream.Collectors;
import java.util.stream.Stream;
import javax.tools.ToolProvider;

/** What README.md says is so: its examples, and its lists of calls, kinds and tests. */
public final class ReadmeTest {
    private static final Check check = new Check("ReadmeTest");
    private static final Path TESTS = Path.of("src/test/java");
    private static final Pattern EXAMPLE = Pattern.compile("```java\n(.*?)```", Pattern.DOTALL);
    private static final Pattern TOLD =
            Pattern.compile("^(?:int|long) (\\w+) = .*; +// (-?\\d+|'.')$", Pattern.MULTILINE);
    private static final Pattern CALL = Pattern.compile("`(\\w+)\\(([^)]*)\\)`");
    private static final Pattern KINDS = Pattern.compile("^\\| ([0-9, ]+) \\| ([012]) \\|", Pattern.MULTILINE);
    private static final Pattern TEST = Pattern.compile("^\\| (\\w+Test) \\|", Pattern.MULTILINE);

    public static void main(String[] args) throws Exception {
        String readme = Files.readString(Path.of("README.md")).replace("\r\n", "\n");
        examples(readme);
        calls(readme);
        kinds(readme);
        tests(readme);
        check.done();
    }

    private static void examples(String readme) throws Exception {
        Path folder = Files.createTempDirectory("readme");
        try {
            int many = 0;
            for (Matcher example = EXAMPLE.matcher(readme); example.find(); many++) {
                example(folder, "Example" + many, example.group(1));
            }
            check.yes("there are examples", many > 0);
        } finally {
            delete(folder);
        }
    }

    private static void example(Path folder, String name, String code) throws Exception {
        List<String> names = new ArrayList<>();
        List<Long> due = new ArrayList<>();
        for (Matcher told = TOLD.matcher(code); told.find();) {
            String comment = told.group(2);
            names.add(told.group(1));
            due.add(comment.startsWith("'") ? comment.charAt(1) : Long.parseLong(comment));
        }
        check.yes(name + " tells what something comes to", !names.isEmpty());
        long[] got = work(folder, name, code, names);
        for (int i = 0; i < got.length; i++) {
            check.same(name + ": " + names.get(i), got[i], due.get(i));
        }
    }

    /** What the named variables of an example have when it has ended; none if it does not compile. */
    private static long[] work(Path folder, String name, String code, List<String> names) throws Exception {
        String whole = "public final class " + name + " {\n    public static long[] work() {\n" + code
                + "\nreturn new long[] {" + String.join(", ", names) + "};\n    }\n}\n";
        Path file = folder.resolve(name + ".java");
        Files.writeString(file, whole);
        int exit = ToolProvider.getSystemJavaCompiler().run(null, null, null,
                "-cp", System.getProperty("java.class.path"), "-d", folder.toString(), file.toString());
        check.same(name + " compiles", exit, 0);
        if (exit != 0) {
            return new long[0];
        }
        try (URLClassLoader loader = new URLClassLoader(new URL[] {folder.toUri().toURL()})) {
            return (long[]) loader.loadClass(name).getMethod("work").invoke(null);
        }
    }

    /** Each call of the face is told, with as many arguments as it has, and no other. */
    private static void calls(String readme) {
        Set<String> told = new TreeSet<>();
        for (Matcher call = CALL.matcher(readme); call.find();) {
            String arguments = call.group(2);
            told.add(call.group(1) + " " + (arguments.isEmpty() ? 0 : arguments.split(",").length));
        }
        Set<String> face = new TreeSet<>();
        for (Method method : QueryRunner.class.getDeclaredMethods()) {
            if (Modifier.isPublic(method.getModifiers())) {
                face.add(method.getName() + " " + method.getParameterCount());
            }
        }
        check.same("the calls", told.toString(), face.toString());
    }

    private static void kinds(String readme) {
        List<Integer> told = new ArrayList<>();
        for (Matcher row = KINDS.matcher(readme); row.find();) {
            for (String kind : row.group(1).split(", ")) {
                told.add(Integer.parseInt(kind));
                partsOf(Integer.parseInt(kind), Integer.parseInt(row.group(2)));
            }
        }
        List<Integer> due = new ArrayList<>();
        for (int kind = 5; kind <= 27; kind++) {
            due.add(kind);
        }
        check.same("the kinds", told.toString(), due.toString());
    }

    /** A kind takes its parts, here NULL that fits always, and looks at no more. */
    private static void partsOf(int kind, int parts) {
        QueryRunner q = new QueryRunner();
        int a = q.constant();
        int b = q.constant();
        boolean[] takes = {
            q.node(kind, -7, -7) >= 0, q.node(kind, a, -7) >= 0, q.node(kind, q.constant(), b) >= 0
        };
        for (int i = 0; i < takes.length; i++) {
            check.same("kind " + kind + " with " + i + " parts", takes[i] ? 1 : 0, i >= parts ? 1 : 0);
        }
    }

    private static void tests(String readme) throws IOException {
        Set<String> told = new TreeSet<>();
        for (Matcher row = TEST.matcher(readme); row.find();) {
            told.add(row.group(1));
        }
        try (Stream<Path> files = Files.list(TESTS)) {
            Set<String> there = files.map(file -> file.getFileName().toString())
                    .filter(name -> name.endsWith("Test.java"))
                    .map(name -> name.replace(".java", ""))
                    .collect(Collectors.toCollection(TreeSet::new));
            check.same("the tests", told.toString(), there.toString());
        }
    }

    private static void delete(Path folder) throws IOException {
        try (Stream<Path> inside = Files.walk(folder)) {
            for (Path path : inside.sorted(Comparator.reverseOrder()).collect(Collectors.toList())) {
                Files.delete(path);
            }
        }
    }
}
