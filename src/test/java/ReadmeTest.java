import java.io.ByteArrayOutputStream;
import java.io.PrintStream;
import java.net.URL;
import java.net.URLClassLoader;
import java.nio.file.Files;
import java.nio.file.Path;
import java.util.ArrayList;
import java.util.List;
import java.util.regex.Matcher;
import java.util.regex.Pattern;
import javax.tools.ToolProvider;

/** What README.md says of the class: its program prints what it says, its table has the calls of the document. */
final class ReadmeTest {
  private static final Check check = new Check("ReadmeTest");

  public static void main(String[] args) throws Exception {
    String readme = Files.readString(Path.of("README.md"));
    String program = between(readme, "```java\n", "```");
    check.equal("what the program prints", outputOf(program), answersIn(program));
    check.equal("the calls", callsOfTable(readme), callsOfDocument(Files.readString(Path.of("../shared/DOC.md"))));
    check.end();
  }

  private static String between(String text, String begin, String end) {
    int from = text.indexOf(begin) + begin.length();
    return text.substring(from, text.indexOf(end, from));
  }

  /** The answers are the words behind the calls that print, up to a comma. */
  private static List<String> answersIn(String program) {
    List<String> answers = new ArrayList<>();
    Matcher matcher = Pattern.compile("System\\.out\\.println\\(.*\\); *// ([^,\\n]+)").matcher(program);
    while (matcher.find()) {
      answers.add(matcher.group(1));
    }
    return answers;
  }

  private static List<String> outputOf(String program) throws Exception {
    Path folder = Files.createTempDirectory("readme");
    Path file = Files.writeString(folder.resolve("Example.java"), program);
    String classes = System.getProperty("java.class.path");
    int failures = ToolProvider.getSystemJavaCompiler()
        .run(null, null, null, "-cp", classes, "-d", folder.toString(), file.toString());
    check.equal("what fails to compile", failures, 0);
    PrintStream out = System.out;
    ByteArrayOutputStream printed = new ByteArrayOutputStream();
    System.setOut(new PrintStream(printed, true));
    try (URLClassLoader loader = new URLClassLoader(new URL[] {folder.toUri().toURL()})) {
      loader.loadClass("Example").getMethod("main", String[].class).invoke(null, (Object) new String[0]);
    } finally {
      System.setOut(out);
      delete(folder);
    }
    return printed.toString().lines().toList();
  }

  private static void delete(Path folder) throws Exception {
    for (String name : folder.toFile().list()) {
      Files.delete(folder.resolve(name));
    }
    Files.delete(folder);
  }

  private static List<String> callsOfTable(String readme) {
    List<String> calls = new ArrayList<>();
    Matcher matcher = Pattern.compile("\\| `(\\w+\\([^)]*\\))` \\|[^|]*\\|([^|]*)\\|").matcher(readme);
    while (matcher.find()) {
      calls.add((matcher.group(1) + " " + matcher.group(2).replace("`", "").strip()).strip());
    }
    return calls;
  }

  private static List<String> callsOfDocument(String document) {
    List<String> calls = new ArrayList<>();
    Matcher matcher = Pattern.compile("    public \\w+ (\\w+)\\(([^)]*)\\)(?: throws )?([^;]*);").matcher(document);
    while (matcher.find()) {
      String names = matcher.group(2).replaceAll("\\w+ (\\w+)", "$1");
      calls.add((matcher.group(1) + "(" + names + ") " + matcher.group(3)).strip());
    }
    return calls;
  }
}
