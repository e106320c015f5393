import java.lang.management.ManagementFactory;
import java.lang.reflect.Constructor;
import java.lang.reflect.Field;
import java.lang.reflect.Method;
import java.lang.reflect.Modifier;
import java.nio.file.Files;
import java.nio.file.Path;
import java.util.Set;
import java.util.TreeSet;
import java.util.regex.Matcher;
import java.util.regex.Pattern;

/** The face of the document, and the rules of LANGUAGE.md that can be looked at from outside. */
final class LanguageTest {
  private static final Path DOCUMENT = Path.of("../shared/DOC.md");
  private static final Path SOURCE = Path.of("src/main/java/SheetNester.java");
  private static final String[] BANNED = {
    "->", "::", "\\bfinally\\b", "\\bsynchronized\\b", "\\bassert\\b", "\\bcatch\\b", "\\bpackage\\b", "Exact\\(",
    "\\bSystem\\.(?!arraycopy)", "\\bThread\\b", "\\bRandom\\b", "\\bObject\\b", "\\+ \"", "\" \\+", "@Override",
    "\\bhashCode\\b", "\\bgetMessage\\b", "\\bstatic \\{", "\\.MAX_VALUE", "\\.MIN_VALUE"
  };

  private static final Check check = new Check("LanguageTest");

  public static void main(String[] args) throws Exception {
    face();
    members();
    words();
    lengths();
    room();
    check.end();
  }

  private static Set<String> faceOfDocument() throws Exception {
    Set<String> face = new TreeSet<>();
    Matcher matcher = Pattern.compile("    public (\\w+ )?(\\w+)\\(([^)]*)\\)([^;]*);").matcher(Files.readString(DOCUMENT));
    while (matcher.find()) {
      String types = matcher.group(3).replaceAll("(\\w+) \\w+", "$1");
      face.add((matcher.group(1) == null ? "" : matcher.group(1)) + matcher.group(2) + "(" + types + ")" + matcher.group(4));
    }
    return face;
  }

  private static String signature(String name, Class<?>[] types, Class<?>[] exceptions) {
    StringBuilder text = new StringBuilder(name).append('(');
    for (int i = 0; i < types.length; i++) {
      text.append(i > 0 ? ", " : "").append(types[i].getSimpleName());
    }
    text.append(')');
    for (int i = 0; i < exceptions.length; i++) {
      text.append(i > 0 ? ", " : " throws ").append(exceptions[i].getSimpleName());
    }
    return text.toString();
  }

  private static void face() throws Exception {
    Set<String> face = new TreeSet<>();
    Set<String> names = new TreeSet<>();
    for (Method m : SheetNester.class.getDeclaredMethods()) {
      if (!Modifier.isPrivate(m.getModifiers())) {
        face.add(m.getReturnType() + " " + signature(m.getName(), m.getParameterTypes(), m.getExceptionTypes()));
        names.add(m.getName());
      }
    }
    for (Constructor<?> c : SheetNester.class.getDeclaredConstructors()) {
      face.add(signature(c.getName(), c.getParameterTypes(), c.getExceptionTypes()));
    }
    check.equal("the face", face, faceOfDocument());
    check.equal("public and final", SheetNester.class.getModifiers(), Modifier.PUBLIC | Modifier.FINAL);
    for (Method m : SheetNester.class.getDeclaredMethods()) {
      boolean isPrivate = Modifier.isPrivate(m.getModifiers());
      check.equal("no private " + m.getName() + " beside a public one", isPrivate && names.contains(m.getName()), false);
    }
  }

  private static void members() {
    Class<?>[] inside = SheetNester.class.getDeclaredClasses();
    check.equal("twelve classes at most", inside.length < 12, true);
    fields(SheetNester.class);
    for (Field f : SheetNester.class.getDeclaredFields()) {
      check.equal("private " + f.getName(), Modifier.isPrivate(f.getModifiers()), true);
    }
    for (Class<?> c : inside) {
      fields(c);
      check.equal("static " + c.getSimpleName(), Modifier.isStatic(c.getModifiers()), true);
      check.equal("private " + c.getSimpleName(), Modifier.isPrivate(c.getModifiers()), true);
    }
  }

  private static void fields(Class<?> c) {
    int fields = 0;
    for (Field f : c.getDeclaredFields()) {
      if (Modifier.isStatic(f.getModifiers())) {
        check.equal("final " + f.getName(), Modifier.isFinal(f.getModifiers()), true);
      } else {
        fields++;
      }
    }
    check.equal("twenty fields at most in " + c.getSimpleName(), fields <= 20, true);
    for (Method m : c.getDeclaredMethods()) {
      check.equal("seven parameters at most in " + m.getName(), m.getParameterCount() <= 7, true);
    }
  }

  private static void words() throws Exception {
    String source = Files.readString(SOURCE).replaceAll("//[^\n]*", "").replaceAll("(?s)/\\*.*?\\*/", "");
    for (String banned : BANNED) {
      check.equal("without " + banned, Pattern.compile(banned).matcher(source).find(), false);
    }
    Set<String> imports = new TreeSet<>();
    Matcher matcher = Pattern.compile("import ([^;]*);").matcher(source);
    while (matcher.find()) {
      imports.add(matcher.group(1));
    }
    check.equal("the imports", imports, Set.of("java.util.NoSuchElementException"));
    check.equal("plain signs", source.chars().allMatch(c -> c < 128), true);
  }

  private static void lengths() throws Exception {
    int begin = 0;
    int line = 0;
    for (String text : Files.readAllLines(SOURCE)) {
      line++;
      if (text.matches(" {2,4}[\\w].*\\{")) {
        begin = line;
      }
      if (text.matches(" {2,4}\\}")) {
        check.equal("the method that ends at line " + line + " is short", line - begin <= 60, true);
      }
    }
  }

  /** Once made, an object makes no others, so that long runs stay within their room. */
  private static void room() {
    use(new SheetNester());
    SheetNester x = new SheetNester();
    var bean = (com.sun.management.ThreadMXBean) ManagementFactory.getThreadMXBean();
    long before = bean.getCurrentThreadAllocatedBytes();
    use(x);
    long used = bean.getCurrentThreadAllocatedBytes() - before;
    check.equal("calls make no objects, but " + used + " bytes", used < 1000, true);
  }

  private static void use(SheetNester x) {
    x.addSheet(10, 10, 1);
    x.addShape(3, 3, 0b111101111, 1, 2);
    int dots = x.addShape(1, 1, 1, 0, 7);
    x.place(dots, 0, 4, 4, 3);
    x.saveSnapshot();
    x.nestAll();
    for (int i = 0; i < 10; i++) {
      x.sheet(0, i);
    }
    x.part(0, 6);
    x.way(0, 0, -1);
    x.remnant(0, 0, 4);
    x.keep(0, 0);
    for (int i = 0; i < 4; i++) {
      x.feed("s2x2".charAt(i));
    }
    x.read();
    x.take(0);
    x.way(0, 1, 0);
    x.undo();
    x.restoreSnapshot();
    x.usedShare();
    x.count(4);
  }
}
