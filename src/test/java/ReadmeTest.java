import java.io.IOException;
import java.net.URL;
import java.net.URLClassLoader;
import java.nio.file.DirectoryStream;
import java.nio.file.Files;
import java.nio.file.Path;
import java.util.ArrayList;
import java.util.Comparator;
import java.util.List;
import java.util.Set;
import java.util.TreeSet;
import java.util.concurrent.TimeUnit;
import java.util.regex.Matcher;
import java.util.regex.Pattern;
import java.util.stream.Stream;
import javax.tools.JavaCompiler;
import javax.tools.ToolProvider;

/** What README.md says of the class and of its tests: the example, the commands, the lists. */
public final class ReadmeTest {
  private static final Path TESTS = Path.of("src/test/java");

  private ReadmeTest() {
  }

  public static void main(String[] args) throws Exception {
    String page = Files.readString(Path.of("README.md"));
    Path room = Files.createTempDirectory("readme");
    try {
      example(page, room);
      commands(page, room);
    } finally {
      remove(room);
    }
    calls(page);
    tests(page);
    Due.end();
  }

  /** Called by the example once it is compiled; public, as that has a class loader of its own. */
  public static void due(String call, long got, long want) {
    Due.is(call, got, want);
  }

  private static List<String> blocks(String page, String kind) {
    List<String> blocks = new ArrayList<>();
    Matcher m = Pattern.compile("(?s)```" + kind + "\n(.*?)```").matcher(page);
    while (m.find()) blocks.add(m.group(1));
    return blocks;
  }

  /** Each call of the example with a comment must answer the number that the comment begins with. */
  private static void example(String page, Path room) throws Exception {
    List<String> blocks = blocks(page, "java");
    Due.is("examples", blocks.size(), 1);
    Matcher m = Pattern.compile("(?m)^(roof\\.[^;]*); +// (-?\\d+|Long\\.MIN_VALUE)\\b.*$").matcher(blocks.get(0));
    StringBuilder code = new StringBuilder();
    int calls = 0;
    while (m.find()) {
      calls++;
      m.appendReplacement(code, Matcher.quoteReplacement("ReadmeTest.due(\"" + m.group(1) + "\", " + m.group(1) + ", " + m.group(2) + ");"));
    }
    m.appendTail(code);
    Matcher plain = Pattern.compile("(?m)^roof\\..*$").matcher(code);
    Due.is("calls of the example without an answer", plain.find() ? 1 : 0, 0);
    Due.is("calls of the example with an answer: " + calls, calls > 20 ? 1 : 0, 1);
    Path file = room.resolve("Example.java");
    Files.writeString(file, "public class Example { public static void run() {\n" + code + "} }\n");
    JavaCompiler compiler = ToolProvider.getSystemJavaCompiler();
    String classes = System.getProperty("java.class.path");
    Due.is("the example compiles", compiler.run(null, null, null, "-cp", classes, "-d", room.toString(), file.toString()), 0);
    try (URLClassLoader loader = new URLClassLoader(new URL[] {room.toUri().toURL()}, ReadmeTest.class.getClassLoader())) {
      loader.loadClass("Example").getMethod("run").invoke(null);
    }
  }

  /** The commands run in a copy made of links, so that nothing is written here. */
  private static void commands(String page, Path room) throws Exception {
    Path copy = Files.createDirectory(room.resolve("main"));
    try (DirectoryStream<Path> entries = Files.newDirectoryStream(Path.of("."))) {
      for (Path entry : entries) {
        if (!entry.endsWith("out")) Files.createSymbolicLink(copy.resolve(entry.getFileName()), entry.toRealPath());
      }
    }
    int run = 0;
    for (String block : blocks(page, "sh")) {
      for (String line : block.split("\n")) {
        run++;
        // This test runs in .ci/run; to run that here would never end.
        if (line.equals(".ci/run")) Due.is(".ci/run can be run", Files.isExecutable(Path.of(line)) ? 1 : 0, 1);
        else Due.is("exit of " + line, exit(line, copy), 0);
      }
    }
    Due.is("commands: " + run, run >= 4 ? 1 : 0, 1);
  }

  private static int exit(String line, Path folder) throws Exception {
    Process process = new ProcessBuilder("bash", "-c", line).directory(folder.toFile()).redirectErrorStream(true)
        .redirectOutput(folder.resolveSibling("printed").toFile()).start();
    if (process.waitFor(300, TimeUnit.SECONDS)) return process.exitValue();
    process.destroyForcibly();
    return -1;
  }

  private static void remove(Path folder) throws IOException {
    List<Path> all;
    try (Stream<Path> walk = Files.walk(folder)) {
      all = walk.sorted(Comparator.reverseOrder()).toList();
    }
    for (Path path : all) Files.delete(path);
  }

  /** The list of calls names each call of the face, and no other. */
  private static void calls(String page) {
    String list = page.substring(page.indexOf("- settings, singers, stones:"), page.indexOf("Nothing is ever thrown."));
    Set<String> named = new TreeSet<>();
    Matcher m = Pattern.compile("`(\\w+)`").matcher(list);
    while (m.find()) named.add(m.group(1));
    Set<String> face = new TreeSet<>();
    for (java.lang.reflect.Method method : ChoirRoof.class.getMethods()) {
      if (method.getDeclaringClass() == ChoirRoof.class) face.add(method.getName());
    }
    Due.is("the page names " + named + ", the face has " + face, named.equals(face) ? 1 : 0, 1);
  }

  /** The table names each test that is there, and each class that the page names is there. */
  private static void tests(String page) throws IOException {
    Set<String> named = new TreeSet<>();
    Matcher m = Pattern.compile("(?m)^\\| `(\\w+Test)` \\|").matcher(page);
    while (m.find()) named.add(m.group(1));
    Set<String> found = new TreeSet<>();
    Set<String> sources = new TreeSet<>();
    try (DirectoryStream<Path> files = Files.newDirectoryStream(TESTS, "*.java")) {
      for (Path file : files) {
        String name = file.getFileName().toString().replace(".java", "");
        sources.add(name);
        if (name.endsWith("Test")) found.add(name);
      }
    }
    Due.is("the page names " + named + ", there are " + found, named.equals(found) ? 1 : 0, 1);
    for (Class<?> inside : ChoirRoof.class.getDeclaredClasses()) {
      sources.add(inside.getSimpleName());
      Due.is("the page tells of " + inside.getSimpleName(), page.contains("`" + inside.getSimpleName() + "`") ? 1 : 0, 1);
    }
    Matcher classes = Pattern.compile("`([A-Z][a-z]+[A-Za-z]*)`").matcher(page);
    while (classes.find()) Due.is("there is a " + classes.group(1), sources.contains(classes.group(1)) ? 1 : 0, 1);
  }
}
