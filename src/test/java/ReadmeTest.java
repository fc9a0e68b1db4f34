import java.io.IOException;
import java.lang.reflect.Method;
import java.lang.reflect.Modifier;
import java.nio.file.Files;
import java.nio.file.Path;
import java.util.Comparator;
import java.util.regex.Matcher;
import java.util.regex.Pattern;
import java.util.stream.Stream;
import javax.tools.JavaCompiler;
import javax.tools.ToolProvider;

/** README.md's example is compiled and run as it stands there, and README.md has every call. */
public final class ReadmeTest {
  // A call of the example, with the name that its answer gets, if any, and the answer told behind it.
  private static final Pattern CALL = Pattern.compile("(?:int (\\w+) = )?(yard\\..*\\));\\s*// (-?\\d+): .*");
  private static final String BEGIN = "```java\n";
  private static final String END = "```";

  public static void main(String[] args) throws Exception {
    String readme = Files.readString(Path.of("README.md"));
    everyCall(readme);
    example(readme);
    Due.finish();
  }

  private static void everyCall(String readme) {
    for (Method m : CellYard.class.getDeclaredMethods()) {
      if (Modifier.isPublic(m.getModifiers())) {
        Pattern row = Pattern.compile("\\| `" + m.getName() + "\\(" + parameters(m) + "\\)` \\|");
        Due.due("README.md has the call " + row, row.matcher(readme).results().count(), 1);
      }
    }
  }

  private static String parameters(Method m) {
    StringBuilder text = new StringBuilder();
    for (Class<?> type : m.getParameterTypes()) {
      text.append(text.length() == 0 ? "" : ", ").append(type.getName()).append(" \\w+");
    }
    return text.toString();
  }

  private static void example(String readme) throws Exception {
    int begin = readme.indexOf(BEGIN);
    int end = readme.indexOf(END, begin + BEGIN.length());
    Due.due("README.md has an example", begin >= 0 && end > begin ? 1 : 0, 1);
    if (begin >= 0 && end > begin) {
      run(readme.substring(begin + BEGIN.length(), end).split("\n"));
    }
  }

  private static void run(String[] lines) throws Exception {
    Path home = Files.createTempDirectory("readme");
    try {
      Path file = home.resolve("Example.java");
      Files.writeString(file, program(lines));
      JavaCompiler compiler = ToolProvider.getSystemJavaCompiler();
      String path = System.getProperty("java.class.path");
      int refused = compiler.run(null, null, null, "-cp", path, "-d", home.toString(), file.toString());
      Due.due("the example compiles", refused, 0);
      if (refused == 0) {
        answers(home, path);
      }
    } finally {
      remove(home);
    }
  }

  /** Each call with its answer becomes one that Due asks for. */
  private static String program(String[] lines) {
    StringBuilder text = new StringBuilder("class Example { public static void main(String[] args) {\n");
    text.append(lines[0]).append('\n');
    for (int i = 1; i < lines.length; i++) {
      Matcher call = CALL.matcher(lines[i]);
      boolean tells = call.matches();
      Due.due("a call with its answer: " + lines[i], tells ? 1 : 0, 1);
      if (tells) {
        String name = call.group(1);
        String asked = name == null ? call.group(2) : name;
        text.append(name == null ? "" : "int " + name + " = " + call.group(2) + ";\n");
        text.append("Due.due(\"README.md: " + call.group(2) + "\", " + asked + ", " + call.group(3) + "L);\n");
      }
    }
    return text.append("Due.finish(); } }\n").toString();
  }

  private static void answers(Path home, String path) throws Exception {
    String java = Path.of(System.getProperty("java.home"), "bin", "java").toString();
    String both = home + System.getProperty("path.separator") + path;
    Process process = new ProcessBuilder(java, "-cp", both, "Example").inheritIO().start();
    Due.due("the example, 0 if it answers as README.md says,", process.waitFor(), 0);
  }

  private static void remove(Path home) throws IOException {
    try (Stream<Path> all = Files.walk(home)) {
      for (Path path : all.sorted(Comparator.reverseOrder()).toList()) {
        Files.delete(path);
      }
    }
  }
}
