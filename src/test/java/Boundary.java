import java.util.ArrayList;
import java.util.EnumSet;
import java.util.List;
import java.util.NoSuchElementException;
import java.util.Set;
import java.util.function.Consumer;

/**
 * What the tests of boundaries are made of. Each test names a promise and the sentence of the document that it holds
 * the class to; its objects are made anew by setups, so that a state can be made, and read, as often as it takes.
 */
abstract class Boundary {
  static final Class<?> INDEX = IndexOutOfBoundsException.class;
  static final Class<?> ARGUMENT = IllegalArgumentException.class;
  static final Class<?> UNSUPPORTED = UnsupportedOperationException.class;
  static final Class<?> STATE = IllegalStateException.class;
  static final Class<?> NONE = NoSuchElementException.class;
  static final Class<?> ARITHMETIC = ArithmeticException.class;
  static final int LOW = Integer.MIN_VALUE;
  static final int HIGH = Integer.MAX_VALUE;

  interface Call {
    Object on(ExamMarker x);
  }

  /** A call, with the argument whose boundary is tested. */
  interface NumberCall {
    Object on(ExamMarker x, int number);
  }

  /** A test that was run. */
  record Named(int promise, String sentence) { }

  static final Consumer<ExamMarker> NOTHING = x -> { };

  /** Candidate 0 has 10 of 20 points everywhere, from marker 0. */
  static final Consumer<ExamMarker> TENS = x -> fill(x, 0, 0, 10, 10, 10, 10, 10);

  static final Consumer<ExamMarker> PUBLISHED = TENS.andThen(ExamMarker::publish);

  private static final List<Named> TESTS = new ArrayList<>();
  private static final Set<Probe.Part> ALL = EnumSet.allOf(Probe.Part.class);
  private static String name = "";

  Boundary() {
  }

  static void test(int promise, String sentence, Runnable body) {
    TESTS.add(new Named(promise, sentence));
    name = "promise " + promise + ", \"" + sentence + "\": ";
    try {
      body.run();
    } catch (RuntimeException e) {
      equal("the test came to an end", e, "no exception");
    }
  }

  static List<Named> tests() {
    return TESTS;
  }

  // Objects

  static ExamMarker made(Consumer<ExamMarker> setup) {
    ExamMarker x = new ExamMarker();
    setup.accept(x);
    return x;
  }

  /** Enters the marks of a candidate, question by question. */
  static void fill(ExamMarker x, int marker, int candidate, int... marks) {
    for (int question = 0; question < marks.length; question++) {
      x.enter(marker, candidate, question, marks[question]);
    }
  }

  /** Adds a seed for each deviation, and lets the marker mark it so. */
  static void deviate(ExamMarker x, int marker, int question, int... deviations) {
    for (int deviation : deviations) {
      int seed = x.addSeed(question, Math.max(0, -deviation));
      x.markSeed(marker, question, seed, Math.max(0, deviation));
    }
  }

  /** Suspends a marker for a question, as long as the limit is 6. */
  static void suspend(ExamMarker x, int marker, int question) {
    deviate(x, marker, question, 7);
  }

  static void maxima(ExamMarker x, int... maxima) {
    for (int question = 0; question < maxima.length; question++) {
      x.setMaximum(question, maxima[question]);
    }
  }

  /** A curve on which every raw result has the same scaled mark. */
  static void flat(ExamMarker x, int scaled) {
    x.setPoint(0, scaled);
    x.setPoint(200, scaled);
  }

  // Answers

  static Object answer(ExamMarker x, Call call) {
    try {
      return call.on(x);
    } catch (RuntimeException e) {
      return Check.kind(e);
    }
  }

  static void equal(String what, Object got, Object due) {
    Check.equal(name + what, got, due);
  }

  /** What a call answers, or which exception it throws, in the state that the setup makes. */
  static void gives(String what, Consumer<ExamMarker> setup, Call call, Object due) {
    equal(what, answer(made(setup), call), due);
  }

  /** A call that throws an exception, and leaves all as it was, the report included. */
  static void refuses(String what, Class<?> due, Consumer<ExamMarker> setup, Call call) {
    gives(what, setup, call, due);
    same(what, setup, setup.andThen(x -> answer(x, call)), ALL);
  }

  /** A call that is refused with a report, and leaves all else as it was. */
  static void reports(String what, Consumer<ExamMarker> setup, Call call, int... report) {
    ExamMarker x = made(setup);
    equal(what, answer(x, call), UNSUPPORTED);
    reported(what, x, report);
    same(what, setup, setup.andThen(y -> answer(y, call)), EnumSet.complementOf(EnumSet.of(Probe.Part.REPORT)));
  }

  /** The text is no sheet: it is gone, its error position is told, and nothing else happens. */
  static void misreads(String what, Consumer<ExamMarker> setup, String text, int position) {
    Consumer<ExamMarker> read = setup.andThen(x -> Sheets.put(x, text)).andThen(x -> answer(x, ExamMarker::sheet));
    gives(what, setup.andThen(x -> Sheets.put(x, text)), ExamMarker::sheet, ARGUMENT);
    equal(what + ": error position", made(read).errorPosition(), position);
    equal(what + ": buffer", made(read).count(7), 0);
    same(what, setup, read, EnumSet.complementOf(EnumSet.of(Probe.Part.TEXT)));
  }

  /** The sheet is refused because of an entry: it is gone, its report is told, and nothing else happens. */
  static void refusesSheet(String what, Consumer<ExamMarker> setup, String text, int... report) {
    Consumer<ExamMarker> read = setup.andThen(x -> Sheets.put(x, text)).andThen(x -> answer(x, ExamMarker::sheet));
    gives(what, setup.andThen(x -> Sheets.put(x, text)), ExamMarker::sheet, UNSUPPORTED);
    reported(what, made(read), report);
    equal(what + ": error position", made(read).errorPosition(), -1);
    equal(what + ": buffer", made(read).count(7), 0);
    same(what, setup, read, EnumSet.complementOf(EnumSet.of(Probe.Part.TEXT, Probe.Part.REPORT)));
  }

  static void reported(String what, ExamMarker x, int... report) {
    equal(what + ": levels", x.levels(), 2);
    for (int i = 0; i < report.length; i++) {
      int number = i;
      Object part = answer(x, y -> y.report(number / 2, number % 2));
      equal(what + ": report(" + i / 2 + ", " + i % 2 + ")", part, report[i]);
    }
  }

  /** The least and the greatest number that a call takes, with its answers, and the first ones that it refuses. */
  static void range(Class<?> due, int least, int greatest, Consumer<ExamMarker> setup, NumberCall call,
      Object atLeast, Object atGreatest) {
    gives("at " + least, setup, x -> call.on(x, least), atLeast);
    gives("at " + greatest, setup, x -> call.on(x, greatest), atGreatest);
    for (int outside : new int[] {least - 1, greatest + 1, LOW, HIGH}) {
      refuses("at " + outside, due, setup, x -> call.on(x, outside));
    }
  }

  /** Two ways to a state, after which objects answer alike. */
  static void same(String what, Consumer<ExamMarker> due, Consumer<ExamMarker> setup, Set<Probe.Part> parts) {
    for (Probe.Part part : parts) {
      List<String> lines = Probe.read(part, () -> made(setup));
      List<String> dueLines = Probe.read(part, () -> made(due));
      String difference = "";
      for (int i = 0; i < lines.size() && difference.isEmpty(); i++) {
        boolean alike = i < dueLines.size() && lines.get(i).equals(dueLines.get(i));
        difference = alike ? "" : lines.get(i) + " where " + (i < dueLines.size() ? dueLines.get(i) : "nothing");
      }
      equal(what + ": " + part + " afterwards", difference.isEmpty() ? lines.size() : difference, dueLines.size());
    }
  }

  static void same(String what, Consumer<ExamMarker> due, Consumer<ExamMarker> setup) {
    same(what, due, setup, ALL);
  }
}
