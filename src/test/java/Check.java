import java.util.NoSuchElementException;

/** Counts the answers that are not as due, and ends the test with them. */
final class Check {
  static final Class<IllegalArgumentException> ARGUMENT = IllegalArgumentException.class;
  static final Class<IllegalStateException> STATE = IllegalStateException.class;
  static final Class<IndexOutOfBoundsException> INDEX = IndexOutOfBoundsException.class;
  static final Class<UnsupportedOperationException> UNSUPPORTED = UnsupportedOperationException.class;
  static final Class<NoSuchElementException> ELEMENT = NoSuchElementException.class;
  static final Class<ArithmeticException> ARITHMETIC = ArithmeticException.class;

  interface Call {
    Object answer();
  }

  private final String test;
  private String subject = "";
  private int checks = 0;
  private int wrong = 0;

  Check(String test) {
    this.test = test;
  }

  /** What is printed ahead of the checks that follow. */
  void about(String text) {
    subject = text;
  }

  int checks() {
    return checks;
  }

  void equal(String what, Object got, Object want) {
    checks++;
    if (!want.equals(got)) {
      wrong++;
      System.out.println(subject + what + ": answered " + got + ", due is " + want);
    }
  }

  /** The class must be the very one: a subclass would tell that the machine has thrown it. */
  void refused(String what, Class<? extends RuntimeException> due, Call call) {
    checks++;
    Object got;
    try {
      got = call.answer();
    } catch (RuntimeException e) {
      got = e.getClass();
    }
    if (got != due) {
      wrong++;
      System.out.println(subject + what + ": answered " + got + ", due is " + due);
    }
  }

  /** Refused, and all that can be seen of the nester is as it was. */
  void refusedQuietly(String what, SheetNester x, Class<? extends RuntimeException> due, Call call) {
    String before = View.of(x);
    refused(what, due, call);
    equal(what + ", what is seen then", View.of(x), before);
  }

  void end() {
    System.out.println(test + ": " + checks + " checks, " + wrong + " wrong");
    if (wrong > 0) {
      System.exit(1);
    }
  }
}
