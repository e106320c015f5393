import java.io.IOException;
import java.nio.file.Files;
import java.nio.file.Path;
import java.util.ArrayList;
import java.util.List;
import java.util.Map;
import java.util.TreeMap;

/** Tests of single sentences: each is told with its promise, and must stand in the document as it is quoted. */
final class Sentences {
  interface Test {
    void run(Check due);
  }

  private static final int PROMISES = 25;

  private final String only;
  private final String general;
  private final String[] sections;
  private final Map<Integer, List<String>> quotes = new TreeMap<>();
  private final Check check = new Check("BoundariesTest");
  private int tests = 0;

  /** With a text that is not empty, only the tests that it stands in are run. */
  Sentences(String only) throws IOException {
    this.only = only;
    String document = plain(Files.readString(Path.of("../shared/DOC.md")));
    sections = new String[PROMISES + 1];
    for (int promise = 1; promise <= PROMISES; promise++) {
      int begin = document.indexOf("## Promise " + promise + ":");
      int end = document.indexOf(promise < PROMISES ? "## Promise " + (promise + 1) + ":" : "## Not promised");
      sections[promise] = document.substring(begin, end);
      quotes.put(promise, new ArrayList<>());
    }
    general = document.substring(0, document.indexOf("## Promise 1:"));
  }

  private static String plain(String text) {
    return text.replaceAll("\\s+", " ");
  }

  /** A test of one sentence, or of the quoted piece of it, for one promise. */
  void of(int promise, String sentence, Test test) {
    String name = "promise " + promise + ", \"" + sentence + "\": ";
    quotes.get(promise).add(sentence);
    if (!name.contains(only)) {
      return;
    }
    tests++;
    check.about(name);
    boolean stands = sections[promise].contains(sentence) || general.contains(sentence);
    check.equal("stands in the document", stands, true);
    int before = check.checks();
    try {
      test.run(check);
    } catch (RuntimeException e) {
      check.equal("the whole test", e, "to come to its end");
    }
    int checks = check.checks() - before;
    check.equal("looks at something", checks > 0, true);
    check.about("");
    System.out.println(name + checks + " checks");
  }

  /** Each exception that a promise names must have a test of that promise. */
  private void lookForExceptions() {
    for (int promise = 1; promise <= PROMISES; promise++) {
      check.equal("promise " + promise + " has tests", quotes.get(promise).isEmpty(), false);
      for (String line : sections[promise].split("(?=Throws `)")) {
        boolean isTested = quotes.get(promise).stream().anyMatch(line::contains);
        check.equal("promise " + promise + ", a test of: " + line, isTested || !line.startsWith("Throws"), true);
      }
    }
  }

  void end() {
    lookForExceptions();
    System.out.println("sentences that were tested: " + tests);
    check.end();
  }
}
