import java.io.File;
import java.io.IOException;
import java.lang.reflect.Method;
import java.lang.reflect.Modifier;
import java.net.URL;
import java.net.URLClassLoader;
import java.nio.file.Files;
import java.nio.file.Path;
import java.util.ArrayList;
import java.util.Comparator;
import java.util.List;
import java.util.regex.Matcher;
import java.util.regex.Pattern;
import java.util.stream.Stream;
import javax.tools.JavaCompiler;
import javax.tools.ToolProvider;

/** What README.md shows of the class compiles and answers as it says, and it names each call, class and test. */
public final class ReadmeTest {
    private static final Pattern ANSWER = Pattern.compile(
            "( *)(?:(int|long|boolean) (\\w+) = )?(port\\.\\w+\\(.*\\)); +// -> (throws )?(\\S+).*");

    public static void main(String[] args) throws Exception {
        String readme = Files.readString(Path.of("README.md"));
        namesAll(readme);
        String program = blockOf(readme, "java");
        Path folder = Files.createTempDirectory("readme");
        try {
            runs(folder, program);
            answers(folder, program);
        } finally {
            remove(folder);
        }
        Check.end();
    }

    private static String blockOf(String readme, String language) {
        int start = readme.indexOf("```" + language + "\n");
        Check.topic("README.md has one program");
        Check.due(true, start >= 0);
        Check.due(start, readme.lastIndexOf("```" + language + "\n"));
        int end = readme.indexOf("\n```", start);
        return readme.substring(readme.indexOf('\n', start) + 1, end + 1);
    }

    private static void namesAll(String readme) throws IOException {
        Check.topic("README.md names each call and class");
        for (Method call : PortHouse.class.getDeclaredMethods()) {
            if (Modifier.isPublic(call.getModifiers())) {
                named(readme, call.getName());
            }
        }
        for (Class<?> inside : PortHouse.class.getDeclaredClasses()) {
            named(readme, inside.getSimpleName());
        }
        Check.topic("README.md names each test and helper");
        try (Stream<Path> files = Files.list(Path.of("src/test/java"))) {
            for (Path file : files.toList()) {
                named(readme, file.getFileName().toString().replace(".java", ""));
            }
        }
        Check.topic("README.md names no test that is not there");
        Matcher test = Pattern.compile("`(\\w+Test)`").matcher(readme);
        while (test.find()) {
            Check.due(test.group(1), Files.exists(Path.of("src/test/java", test.group(1) + ".java"))
                    ? test.group(1) : "nothing");
        }
    }

    private static void named(String readme, String name) {
        Check.due(name, readme.contains("`" + name + "`") ? name : "not named");
    }

    /** As it stands there. */
    private static void runs(Path folder, String program) throws Exception {
        Check.topic("the program of README.md, as it stands there");
        Check.due(true, start(folder, "Example", program));
    }

    /** Each answer that is told is compared with the one that comes. */
    private static void answers(Path folder, String program) throws Exception {
        Check.topic("the program of README.md tells each call's answer");
        List<String> lines = new ArrayList<>();
        for (String line : program.split("\n")) {
            Matcher told = ANSWER.matcher(line);
            boolean asks = line.matches(" *((int|long|boolean) \\w+ = )?port\\..*") && !line.contains("port.type(word");
            Check.due(asks ? line : "no call", told.matches() ? line : "no call");
            lines.add(told.matches() ? compared(told) : line);
        }
        String text = String.join("\n", lines).replace("class Example", "class Compared");
        Check.topic("the answers of README.md's program");
        Check.due(true, start(folder, "Compared", text));
    }

    private static String compared(Matcher told) {
        String call = told.group(4);
        String due = told.group(6);
        String topic = told.group(1) + "Check.topic(\"README.md, " + call.replace("\"", "'") + "\"); ";
        if (told.group(5) != null) {
            return topic + "Check.thrown(" + due + ".class, () -> " + call + ");";
        }
        if (told.group(2) == null) {
            return topic + "Check.due(\"" + due + "\", String.valueOf(" + call + "));";
        }
        return topic + told.group(2) + " " + told.group(3) + " = " + call + "; Check.due(\"" + due
                + "\", String.valueOf(" + told.group(3) + "));";
    }

    // The classes are loaded anew, all by one loader: the program's wrong answers are counted in a Check of its own.
    private static boolean start(Path folder, String name, String text) throws Exception {
        Path file = folder.resolve(name + ".java");
        Files.writeString(file, text);
        String classes = System.getProperty("java.class.path");
        JavaCompiler compiler = ToolProvider.getSystemJavaCompiler();
        String[] options = {"-encoding", "UTF-8", "-cp", classes, "-d", folder.toString(), file.toString()};
        if (compiler == null || compiler.run(null, System.out, System.out, options) != 0) {
            return false;
        }
        List<URL> places = new ArrayList<>();
        places.add(folder.toUri().toURL());
        for (String place : classes.split(File.pathSeparator)) {
            places.add(Path.of(place).toUri().toURL());
        }
        ClassLoader above = ClassLoader.getPlatformClassLoader();
        try (URLClassLoader loader = new URLClassLoader(places.toArray(new URL[0]), above)) {
            loader.loadClass(name).getMethod("main", String[].class).invoke(null, (Object) new String[0]);
            if (text.contains("Check.")) {
                Method end = loader.loadClass("Check").getDeclaredMethod("end");
                end.setAccessible(true);
                end.invoke(null);
            }
        }
        return true;
    }

    private static void remove(Path folder) throws IOException {
        try (Stream<Path> files = Files.walk(folder)) {
            for (Path file : files.sorted(Comparator.reverseOrder()).toList()) {
                Files.delete(file);
            }
        }
    }
}
