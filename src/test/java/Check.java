/** Counts the answers that are not as due, and ends the test with them. */
final class Check {
  interface Call {
    Object answer();
  }

  private final String test;
  private int checks = 0;
  private int wrong = 0;

  Check(String test) {
    this.test = test;
  }

  void equal(String what, Object got, Object want) {
    checks++;
    if (!want.equals(got)) {
      wrong++;
      System.out.println(what + ": answered " + got + ", due is " + want);
    }
  }

  /** The class must be the very one: a subclass would tell that the machine has thrown it. */
  void refused(String what, Class<? extends RuntimeException> due, Call call) {
    checks++;
    Object got;
    try {
      got = call.answer();
    } catch (RuntimeException e) {
      got = e.getClass();
    }
    if (got != due) {
      wrong++;
      System.out.println(what + ": answered " + got + ", due is " + due);
    }
  }

  void end() {
    System.out.println(test + ": " + checks + " checks, " + wrong + " wrong");
    if (wrong > 0) {
      System.exit(1);
    }
  }
}
