import java.util.Objects;

/** What the tests check with: it prints every answer that is not the due one, and counts them. */
final class Check {
  interface Call {
    Object run();
  }

  private static int checks = 0;
  private static int wrong = 0;

  private Check() {
  }

  static void equal(String what, Object got, Object due) {
    checks++;
    boolean same = got instanceof Number && due instanceof Number
        ? ((Number) got).longValue() == ((Number) due).longValue()
        : Objects.equals(got, due);
    if (!same) {
      wrong++;
      System.out.println(what + " answered " + got + ", due is " + due);
    }
  }

  /** The exception must be of this very class: one of a class below it would come from the machine. */
  static void refused(String what, Class<? extends RuntimeException> due, Call call) {
    Object got;
    try {
      got = call.run();
    } catch (RuntimeException e) {
      got = kind(e);
    }
    equal(what, got, due);
  }

  /** The class of an exception that the program threw itself, and otherwise what tells that it did not. */
  static Object kind(Throwable e) {
    StackTraceElement[] calls = e.getStackTrace();
    boolean inside = calls.length > 0 && calls[0].getClassName().startsWith("ExamMarker");
    boolean told = e.getMessage() != null && !e.getMessage().equals("/ by zero");
    return inside && told ? e.getClass() : "not thrown by the program itself: " + e;
  }

  static void end() {
    System.out.println(checks + " checks, " + wrong + " wrong");
    if (wrong != 0) {
      System.exit(1);
    }
  }
}
