import java.util.ArrayList;
import java.util.Arrays;
import java.util.EnumSet;
import java.util.List;
import java.util.Set;
import java.util.TreeSet;
import java.util.function.Consumer;

/** What each promise says that its method does, and what it returns: every answer that a call changes, and no other. */
final class PromiseSentences extends Boundary {
  /** What can be read without changing anything. */
  private static final Set<Probe.Part> READ =
      EnumSet.of(Probe.Part.SCRIPTS, Probe.Part.ENTRIES, Probe.Part.RESULTS, Probe.Part.REPORT);

  /**
   * Marker 1 marks 2 points too high in question 2, where candidate 0 has 10 and 14 - 2 points; it has 12 everywhere
   * else, which makes 59 of 100 and lifts it to grade 1. Candidate 5 has a single mark.
   */
  private static final Consumer<ExamMarker> HALL = x -> {
    x.addSeed(2, 10);
    x.markSeed(1, 2, 0, 12);
    fill(x, 0, 0, 12, 12, 10, 12, 12);
    x.enter(1, 0, 2, 14);
    x.enter(0, 5, 0, 20);
  };

  /** The same hall without candidate 5. */
  private static final Consumer<ExamMarker> PUBLISHED_HALL = x -> {
    x.addSeed(2, 10);
    x.markSeed(1, 2, 0, 12);
    fill(x, 0, 0, 12, 12, 10, 12, 12);
    x.enter(1, 0, 2, 14);
    x.publish();
  };

  private PromiseSentences() {
  }

  static void run() {
    maxima();
    settings();
    seeds();
    corrections();
    entries();
    buffer();
    parts();
    scripts();
    circumstances();
    points();
    boundaries();
    results();
    orders();
    suppositions();
    bits();
    publication();
    appeals();
    remarks();
    accounts();
    reports();
    counts();
  }

  /** The answers that are new or other ones after a call, which must be those that are due. */
  private static void changes(String what, Consumer<ExamMarker> setup, Call call, String... due) {
    TreeSet<String> got = new TreeSet<>();
    for (Probe.Part part : READ) {
      List<String> after = new ArrayList<>(Probe.read(part, () -> made(setup.andThen(x -> answer(x, call)))));
      after.removeAll(Probe.read(part, () -> made(setup)));
      got.addAll(after);
    }
    equal(what, got, new TreeSet<>(Arrays.asList(due)));
  }

  private static String mean(int question, int units, int candidates) {
    return "meanBits(" + question + ") -> "
        + Double.doubleToLongBits((double) units / 120.0 / (double) candidates);
  }

  private static String share(int marker, int valid, int all) {
    return "validBits(" + marker + ") -> " + Float.floatToIntBits((float) valid / (float) all);
  }

  // Promises 2 to 7

  private static void maxima() {
    test(2, "Sets the maximum of a question.", () -> {
      changes("greater", HALL, x -> x.setMaximum(0, 30), "count(6) -> 110", "result(0, 2) -> 54",
          "result(0, 4) -> 2", "result(0, 5) -> 0", "result(5, 2) -> 18", "graded(1) -> 0", "graded(2) -> 1");
      changes("less", HALL, x -> x.setMaximum(3, 12), "count(6) -> 92", "result(0, 2) -> 64",
          "result(0, 3) -> 1", "result(0, 5) -> 0", "result(5, 2) -> 22");
      changes("the same", HALL, x -> x.setMaximum(3, 20));
    });
    test(2, "Returns the previous maximum.", () -> {
      ExamMarker x = made(HALL);
      int previous = 20;
      for (int maximum : new int[] {20, 12, 40, 39, 20}) {
        equal("before " + maximum, x.setMaximum(4, maximum), previous);
        previous = maximum;
      }
      x.undo();
      equal("after undo", x.setMaximum(4, 20), 39);
    });
  }

  private static void settings() {
    String[] less = {"script(0, 2, 0) -> 1200", "recount(0) -> 6960", "result(0, 0) -> 6960", "result(0, 2) -> 58",
        mean(2, 1200, 2)};
    test(3, "Sets a setting.", () -> {
      changes("the band", HALL, x -> x.set(0, 2),
          with(less, "correction(1, 2) -> 0", "script(0, 2, 3) -> 2", "count(9) -> 1"));
      changes("the limit", HALL, x -> x.set(1, 1),
          with(less, "isSuspended(1, 2) -> true", "script(0, 2, 2) -> 1", share(1, 0, 1)));
      changes("the tolerance", HALL, x -> x.set(2, 1), with(less, "script(0, 2, 3) -> 2", "count(9) -> 1"));
      changes("the distance", HALL, x -> x.set(3, 0),
          "result(0, 4) -> 2", "result(0, 5) -> 0", "graded(1) -> 0", "graded(2) -> 1");
      changes("the fee", HALL, x -> x.set(4, 0));
    });
    test(3, "Returns the previous value.", () -> {
      int[] first = {1, 6, 3, 2, 30};
      ExamMarker x = new ExamMarker();
      for (int what = 0; what < 5; what++) {
        equal("at first, " + what, x.set(what, 5 - what), first[what]);
      }
      for (int what = 0; what < 5; what++) {
        equal("again, " + what, x.set(what, 1), 5 - what);
      }
    });
  }

  private static String[] with(String[] lines, String... more) {
    String[] all = Arrays.copyOf(lines, lines.length + more.length);
    System.arraycopy(more, 0, all, lines.length, more.length);
    return all;
  }

  private static void seeds() {
    test(4, "Adds a seed to a question.", () -> {
      changes("a second one", HALL, x -> x.addSeed(2, 20), "count(2) -> 2");
      gives("its definitive mark", HALL.andThen(x -> x.addSeed(2, 20)), x -> x.markSeed(1, 2, 1, 20), 0);
      gives("not of another question", HALL.andThen(x -> x.addSeed(2, 20)), x -> x.markSeed(1, 3, 0, 20), INDEX);
    });
    test(4, "Returns the number of the seed.", () -> {
      ExamMarker x = made(HALL);
      for (int seed = 1; seed < 5; seed++) {
        equal("seed", x.addSeed(2, 10), seed);
        equal("seed of another question", x.addSeed(4, 10), seed - 1);
      }
    });
    test(5, "Lets a marker mark a seed.", () -> changes("a second marker", HALL, x -> x.markSeed(0, 2, 0, 7),
        "correction(0, 2) -> 360", "count(3) -> 2", "account(0) -> 210", "account(4) -> 270",
        "script(0, 2, 0) -> 1500", "recount(0) -> 7260", "result(0, 0) -> 7260", "result(0, 2) -> 61",
        "result(0, 3) -> 1", "result(0, 5) -> 0", mean(2, 1500, 2)));
    test(5, "Returns the deviation.", () -> {
      for (int mark = 0; mark <= 20; mark++) {
        int given = mark;
        gives("a mark of " + mark, HALL, x -> x.markSeed(3, 2, 0, given), mark - 10);
      }
      gives("the least", x -> {
        x.setMaximum(0, 40);
        x.addSeed(0, 40);
      }, x -> x.markSeed(0, 0, 0, 0), -40);
    });
  }

  private static void corrections() {
    Consumer<ExamMarker> some = x -> {
      deviate(x, 3, 4, 7, -2);
      deviate(x, 2, 4, -3);
      x.markSeed(2, 4, 0, 0);
      deviate(x, 0, 1, 4, 5, -6);
    };
    test(6, "Returns the correction of a marker for a question.", () -> {
      int[] inFour = {0, 0, 180, -300};
      for (int i = 0; i < 20; i++) {
        int marker = i / 5;
        int question = i % 5;
        gives("marker " + marker + ", question " + question, some, x -> x.correction(marker, question),
            question == 4 ? inFour[marker] : 0);
      }
    });
    test(6, "Returns the correction in units.", () -> {
      gives("a point and a half", x -> deviate(x, 0, 0, 1, 2), x -> x.correction(0, 0), -180);
      gives("a point and a half the other way", x -> deviate(x, 0, 0, -1, -2), x -> x.correction(0, 0), 180);
    });
    test(7, "Returns whether a marker is suspended for a question.", () -> {
      for (int i = 0; i < 20; i++) {
        int marker = i / 5;
        int question = i % 5;
        gives("marker " + marker + ", question " + question, some, x -> x.isSuspended(marker, question),
            marker == 3 && question == 4);
      }
    });
    test(7, "Returns whether it is.", () -> {
      gives("it is", some, x -> x.isSuspended(3, 4), true);
      gives("it is not any more", some.andThen(x -> x.set(1, 7)), x -> x.isSuspended(3, 4), false);
    });
  }

  // Promises 8 to 13

  private static void entries() {
    test(8, "Makes an entry.", () -> {
      changes("of a candidate without one", HALL, x -> x.enter(3, 7, 4, 9), "count(0) -> 8", "count(1) -> 3",
          "account(3) -> 30", "account(4) -> 270", "script(7, 4, 0) -> 1080", "script(7, 4, 1) -> 1",
          "script(7, 4, 2) -> 1", "script(7, 4, 3) -> 0", "entry(7, 4, 0, 0) -> 3", "entry(7, 4, 0, 1) -> 9",
          "result(7, 0) -> 1080", "result(7, 1) -> 1", "result(7, 2) -> 9", "result(7, 3) -> 4",
          "result(7, 4) -> 4", "result(7, 5) -> 0", "recount(7) -> 1080", "ranked(2) -> 7", "graded(4) -> 2",
          share(3, 1, 1), mean(0, 32 * 120, 3), mean(1, 12 * 120, 3), mean(2, 11 * 120, 3), mean(3, 12 * 120, 3),
          mean(4, 21 * 120, 3));
      changes("a second one that disagrees", HALL, x -> x.enter(2, 5, 0, 16), "count(0) -> 8", "account(2) -> 30",
          "account(4) -> 270", "script(5, 0, 0) -> 1920", "script(5, 0, 1) -> 2", "script(5, 0, 2) -> 2",
          "script(5, 0, 3) -> 2", "entry(5, 0, 1, 0) -> 2", "entry(5, 0, 1, 1) -> 16", "result(5, 0) -> 1920",
          "result(5, 2) -> 16", "recount(5) -> 1920", "count(9) -> 1", share(2, 1, 1), mean(0, 28 * 120, 2));
    });
    test(8, "Returns the number of entries of the script.", () -> {
      ExamMarker x = made(HALL);
      equal("the first", x.enter(3, 7, 4, 0), 1);
      equal("the first of another question", x.enter(3, 7, 3, 0), 1);
      equal("the second", x.enter(2, 7, 4, 20), 2);
      equal("the first of another candidate", x.enter(3, 6, 4, 0), 1);
      equal("the third", x.enter(1, 7, 4, 9), 3);
    });
  }

  private static void buffer() {
    test(9, "Returns the number of characters in the buffer.", () -> {
      ExamMarker x = made(HALL);
      for (int length = 4; length <= 60; length += 4) {
        equal("four more", x.append(0x21217E7E), length);
      }
      equal("none more", x.append(0), 60);
      answer(x, ExamMarker::sheet);
      equal("one after sheet", x.append(0x00210000), 1);
      equal("two more", x.append(0x7E000030), 3);
      equal("three more", x.append(0x00303030), 6);
    });
  }

  private static void parts() {
    int[][] due = {{0, 10, 1200, 1}, {1, 14, 1680 - 240, 1}};
    test(12, "Returns a part of an entry of a script.", () -> {
      for (int i = 0; i < 8; i++) {
        int index = i / 4;
        int what = i % 4;
        gives("entry " + index + ", what " + what, HALL, x -> x.entry(0, 2, index, what), due[index][what]);
      }
    });
    test(12, "Returns the part.", () -> {
      Consumer<ExamMarker> suspended = HALL.andThen(x -> x.set(1, 1));
      int[] part = {1, 14, 1440, 0};
      for (int i = 0; i < 4; i++) {
        int what = i;
        gives("of one that is not valid, what " + what, suspended, x -> x.entry(0, 2, 1, what), part[what]);
      }
    });
  }

  private static void scripts() {
    test(13, "Returns a property of a script.", () -> {
      int[] due = {1320, 2, 2, 0, 0};
      int[] missing = {0, 0, 0, 1, 0};
      for (int i = 0; i < 5; i++) {
        int what = i;
        gives("two entries, what " + what, HALL, x -> x.script(0, 2, what), due[what]);
        gives("none, what " + what, HALL, x -> x.script(5, 2, what), missing[what]);
      }
    });
    test(13, "Returns the property.", () -> {
      int[] due = {1320, 2, 2, 0, 1};
      int[] ignored = {1320, 2, 2, 0, 2};
      int[] counted = {1800, 2, 2, 0, 3};
      Consumer<ExamMarker> appealed = PUBLISHED_HALL.andThen(x -> x.appeal(0, 2));
      for (int i = 0; i < 5; i++) {
        int what = i;
        gives("open, what " + what, appealed, x -> x.script(0, 2, what), due[what]);
        gives("a near remark, what " + what, appealed.andThen(x -> x.remark(2, 0, 2, 14)),
            x -> x.script(0, 2, what), ignored[what]);
        gives("a remark far away, what " + what, appealed.andThen(x -> x.remark(2, 0, 2, 15)),
            x -> x.script(0, 2, what), counted[what]);
      }
    });
  }

  // Promises 14 to 19

  private static void circumstances() {
    test(14, "Sets whether a question is excused for a candidate.", () -> {
      changes("excused", HALL, x -> x.excuse(0, 2, true), "result(0, 0) -> 7200", "result(0, 2) -> 60",
          "result(0, 3) -> 1", "result(0, 5) -> 0", "recount(0) -> 5760", mean(2, 0, 1));
      changes("not excused again", HALL.andThen(x -> x.excuse(0, 2, true)), x -> x.excuse(0, 2, false),
          "result(0, 0) -> 7080", "result(0, 2) -> 59", "result(0, 3) -> 2", "result(0, 5) -> 1",
          "recount(0) -> 7080", mean(2, 11 * 120, 2));
      changes("as before", HALL, x -> x.excuse(0, 2, false));
    });
    test(14, "Returns whether it was.", () -> {
      ExamMarker x = made(HALL);
      boolean[] steps = {true, true, false, false, true};
      boolean was = false;
      for (boolean excused : steps) {
        equal("before " + excused, x.excuse(0, 2, excused), was);
        was = excused;
      }
    });
    test(15, "Sets the raise of a candidate.", () -> {
      changes("10 percent", HALL, x -> x.raise(0, 10), "result(0, 0) -> 7788", "result(0, 2) -> 65",
          "result(0, 3) -> 1", "result(0, 5) -> 0");
      changes("1 percent", HALL, x -> x.raise(0, 1), "result(0, 0) -> 35754", "result(0, 1) -> 5",
          "result(0, 2) -> 60", "result(0, 3) -> 1", "result(0, 5) -> 0");
    });
    test(15, "Returns the previous raise.", () -> {
      ExamMarker x = made(HALL);
      int previous = 0;
      for (int raise : new int[] {10, 0, 3, 3, 7}) {
        equal("before " + raise, x.raise(7, raise), previous);
        previous = raise;
      }
    });
  }

  private static void points() {
    Consumer<ExamMarker> line = HALL.andThen(x -> {
      x.setPoint(19, 40);
      x.setPoint(69, 90);
    });
    test(16, "Sets the value of a point of the curve, or adds a point.", () -> {
      changes("a first point", HALL, x -> x.setPoint(59, 0), "count(4) -> 1");
      changes("a second one", HALL.andThen(x -> x.setPoint(19, 40)), x -> x.setPoint(69, 90), "count(4) -> 2",
          "result(0, 2) -> 80", "result(0, 3) -> 0", "result(0, 4) -> 0", "result(0, 5) -> 0", "result(5, 2) -> 41",
          "result(5, 3) -> 3", "result(5, 4) -> 3", "graded(0) -> 1", "graded(1) -> 0", "graded(3) -> 1",
          "graded(4) -> 0");
      changes("a third one between them", line, x -> x.setPoint(59, 61), "count(4) -> 3", "result(0, 2) -> 61",
          "result(0, 3) -> 1", "result(0, 4) -> 1", "graded(0) -> 0", "graded(1) -> 1");
      changes("another value", line, x -> x.setPoint(69, 40), "result(0, 2) -> 40", "result(0, 3) -> 3",
          "result(0, 4) -> 3", "result(5, 2) -> 40", "graded(0) -> 0", "graded(3) -> 2");
    });
    test(16, "Returns the number of points.", () -> {
      ExamMarker x = new ExamMarker();
      for (int points = 1; points <= 5; points++) {
        equal("a new one", x.setPoint(200 - points, points), points);
        equal("the same", x.setPoint(200 - points, 0), points);
      }
    });
    test(17, "Removes a point of the curve.", () -> {
      changes("one of two", line, x -> x.removePoint(69), "count(4) -> 1", "result(0, 2) -> 59",
          "result(0, 3) -> 2", "result(0, 4) -> 1", "result(0, 5) -> 1", "result(5, 2) -> 20", "result(5, 3) -> 4",
          "result(5, 4) -> 4", "graded(0) -> 0", "graded(1) -> 1", "graded(3) -> 0", "graded(4) -> 1");
      gives("it can be added again", line.andThen(x -> x.removePoint(69)), x -> x.setPoint(69, 1), 2);
    });
    test(17, "Returns its value.", () -> {
      gives("the first", line, x -> x.removePoint(19), 40);
      gives("the last", line, x -> x.removePoint(69), 90);
      gives("set again", line.andThen(x -> x.setPoint(69, 0)), x -> x.removePoint(69), 0);
    });
    test(18, "Returns the scaled mark that a raw result has.", () -> {
      for (int i = 0; i <= 100; i += 5) {
        int fifth = i / 5;
        Consumer<ExamMarker> candidate = line.andThen(x -> fill(x, 2, 7, fifth, fifth, fifth, fifth, fifth));
        Object scaled = answer(made(candidate), x -> (int) x.result(7, 2));
        gives("of " + i + " points", candidate, x -> x.curve(5 * fifth), scaled);
        equal("scaled mark of " + i + " points", scaled, i < 19 ? 40 : i > 69 ? 90 : i + 21);
      }
    });
    test(18, "Returns the scaled mark.", () -> {
      gives("without a curve", NOTHING, x -> x.curve(37), 37);
      gives("rounded up", x -> x.setMaximum(0, 40), x -> x.curve(3), 3);
      gives("rounded down", x -> x.setMaximum(0, 40), x -> x.curve(4), 3);
    });
  }

  private static void boundaries() {
    test(19, "Sets a boundary.", () -> {
      changes("of the grade that was missed", HALL, x -> x.setBoundary(1, 59), "result(0, 3) -> 1",
          "result(0, 5) -> 0");
      changes("too far away", HALL, x -> x.setBoundary(1, 62), "result(0, 4) -> 2", "result(0, 5) -> 0",
          "graded(1) -> 0", "graded(2) -> 1");
      changes("of the last one", HALL, x -> x.setBoundary(3, 20), "result(5, 3) -> 3", "result(5, 4) -> 3",
          "graded(3) -> 1", "graded(4) -> 0");
    });
    test(19, "Returns the previous boundary.", () -> {
      ExamMarker x = made(HALL);
      int previous = 50;
      for (int boundary : new int[] {41, 59, 59, 50}) {
        equal("before " + boundary, x.setBoundary(2, boundary), previous);
        previous = boundary;
      }
    });
  }

  // Promises 20 to 27

  private static void results() {
    Consumer<ExamMarker> raised = HALL.andThen(x -> x.raise(5, 3)).andThen(x -> x.excuse(5, 1, true));
    test(20, "Returns a number about the result of a candidate.", () -> {
      long[] due = {7080, 1, 59, 2, 1, 1};
      for (int i = 0; i < 6; i++) {
        int what = i;
        gives("what " + what, raised, x -> x.result(0, what), due[what]);
      }
    });
    test(20, "Returns the number.", () -> {
      long[] due = {3090, 1, 26, 4, 4, 0};
      for (int i = 0; i < 6; i++) {
        int what = i;
        gives("of another one, what " + what, raised, x -> x.result(5, what), due[what]);
      }
    });
    test(21, "Returns the sum in units.", () -> {
      gives("all five", HALL, x -> x.recount(0), 59 * 120);
      gives("one of them", HALL, x -> x.recount(5), 20 * 120);
      gives("no entry", HALL, x -> x.recount(7), 0);
      gives("neither raised nor made up for what is excused", raised, x -> x.recount(5), 20 * 120);
    });
  }

  private static void orders() {
    Consumer<ExamMarker> three = HALL.andThen(x -> x.enter(0, 3, 4, 20));
    test(22, "Returns the candidate.", () -> {
      int[] due = {0, 3, 5};
      for (int i = 0; i < 3; i++) {
        int rank = i;
        gives("rank " + rank, three, x -> x.ranked(rank), due[rank]);
      }
      gives("raised above an equal one", three.andThen(x -> x.raise(5, 1)), x -> x.ranked(1), 5);
      gives("no fourth", three, x -> x.ranked(3), NONE);
    });
    test(23, "Returns the number.", () -> {
      int[] due = {0, 1, 0, 0, 2};
      for (int i = 0; i < 5; i++) {
        int grade = i;
        gives("grade " + grade, three, x -> x.graded(grade), due[grade]);
      }
    });
  }

  private static void suppositions() {
    test(24, "Returns the grade.", () -> {
      // The other questions of candidate 0 have 47 points, and three of these four have 12 of 20 or more.
      for (int i = 0; i <= 20; i++) {
        int mark = i;
        int due = mark + 47 >= 58 ? 1 : mark + 47 >= 48 ? 2 : 3;
        gives("with " + mark, HALL, x -> x.gradeIf(0, 4, mark), due);
      }
      gives("a single mark", HALL, x -> x.gradeIf(5, 1, 20), 3);
      same("asking", HALL, HALL.andThen(x -> x.gradeIf(0, 4, 20)));
    });
    test(25, "Returns the mark.", () -> {
      gives("for grade 1", HALL, x -> x.needed(0, 4, 1), 11);
      gives("for grade 2", HALL, x -> x.needed(0, 4, 2), 1);
      gives("for grade 3", HALL, x -> x.needed(0, 4, 3), 0);
      gives("for grade 0", HALL, x -> x.needed(0, 4, 0), NONE);
      gives("a single mark", HALL, x -> x.needed(5, 1, 3), 20);
      same("asking", HALL, HALL.andThen(x -> x.needed(0, 4, 1)));
    });
  }

  private static void bits() {
    test(26, "Returns the bits of the double, as by Double.doubleToLongBits.", () -> {
      int[] sums = {32 * 120, 12 * 120, 11 * 120, 12 * 120, 12 * 120};
      for (int i = 0; i < 5; i++) {
        int question = i;
        double due = (double) sums[question] / 120.0 / 2.0;
        gives("question " + i, HALL, x -> x.meanBits(question), Double.doubleToLongBits(due));
      }
      Consumer<ExamMarker> fractions = x -> {
        x.set(0, 0);
        deviate(x, 0, 0, -1, 0, 0, 0, 0);
        for (int candidate = 0; candidate < 7; candidate++) {
          x.enter(candidate < 3 ? 0 : 1, candidate, 0, candidate);
        }
      };
      gives("sevenths", fractions, x -> x.meanBits(0), Double.doubleToLongBits((21 * 120 + 72) / 120.0 / 7.0));
      gives("nothing", x -> x.enter(0, 0, 0, 0), x -> x.meanBits(0), Double.doubleToLongBits(0.0));
    });
    test(27, "Returns the bits of the float, as by Float.floatToIntBits.", () -> {
      for (int i = 0; i <= 5; i++) {
        int suspended = i;
        Consumer<ExamMarker> setup = x -> {
          fill(x, 0, 0, 1, 1, 1, 1, 1);
          for (int question = 0; question < suspended; question++) {
            suspend(x, 0, question);
          }
        };
        gives(5 - i + " of 5", setup, x -> x.validBits(0), Float.floatToIntBits((float) (5 - suspended) / 5.0f));
      }
    });
  }

  // Promises 28 to 35

  private static void publication() {
    test(28, "Publishes the results.", () -> {
      changes("published", TENS, ExamMarker::publish, "count(5) -> 1");
      gives("appeals are possible", TENS.andThen(ExamMarker::publish), x -> x.appeal(0, 0), 30);
      gives("entries are not", TENS.andThen(ExamMarker::publish), x -> x.enter(1, 0, 0, 10), UNSUPPORTED);
    });
    test(29, "Withdraws the publication.", () -> {
      changes("withdrawn", PUBLISHED, ExamMarker::withdraw, "count(5) -> 0");
      gives("appeals are not possible", PUBLISHED.andThen(ExamMarker::withdraw), x -> x.appeal(0, 0), UNSUPPORTED);
      gives("entries are", PUBLISHED.andThen(ExamMarker::withdraw), x -> x.enter(1, 0, 0, 10), 2);
    });
    test(29, "Returns the number of candidates with a grade.", () -> {
      gives("one", PUBLISHED, ExamMarker::withdraw, 1);
      gives("none", x -> x.publish(), ExamMarker::withdraw, 0);
      gives("two", TENS.andThen(x -> fill(x, 3, 7, 0, 0, 0, 0, 0)).andThen(ExamMarker::publish),
          ExamMarker::withdraw, 2);
    });
  }

  private static void appeals() {
    test(30, "Makes an appeal.", () -> {
      changes("the first", PUBLISHED_HALL, x -> x.appeal(0, 2), "script(0, 2, 4) -> 1", "account(5) -> 30",
          "account(7) -> 1", "account(8) -> 1");
      Consumer<ExamMarker> dearer = PUBLISHED_HALL.andThen(x -> x.appeal(0, 2)).andThen(x -> x.set(4, 99));
      changes("a second", dearer, x -> x.appeal(0, 4), "script(0, 4, 4) -> 1", "account(5) -> 129",
          "account(7) -> 2", "account(8) -> 2");
    });
    test(30, "Returns the fee paid.", () -> {
      ExamMarker x = made(PUBLISHED_HALL);
      equal("at first", x.appeal(0, 0), 30);
      x.set(4, 0);
      equal("none", x.appeal(0, 1), 0);
      x.set(4, 99);
      equal("the greatest", x.appeal(0, 2), 99);
    });
  }

  private static void remarks() {
    Consumer<ExamMarker> open = PUBLISHED_HALL.andThen(x -> x.appeal(0, 0)).andThen(x -> x.appeal(0, 2));
    Consumer<ExamMarker> strict = x -> x.set(3, 0);
    test(31, "Makes the remark of an open appeal.", () -> {
      changes("one that counts", strict.andThen(open), x -> x.remark(3, 0, 2, 20), "script(0, 2, 0) -> 2400",
          "script(0, 2, 4) -> 3", "account(3) -> 30", "account(4) -> 240", "account(6) -> 30", "account(8) -> 1",
          "recount(0) -> 8160", "result(0, 0) -> 8160", "result(0, 2) -> 68", "result(0, 3) -> 1",
          "result(0, 4) -> 1", "graded(1) -> 1", "graded(2) -> 0", mean(2, 2400, 1));
      changes("one that does not", open, x -> x.remark(3, 0, 2, 14), "script(0, 2, 4) -> 2", "account(3) -> 30",
          "account(4) -> 240", "account(8) -> 1");
    });
    test(31, "Returns the fee refunded, or 0.", () -> {
      gives("better", strict.andThen(open), x -> x.remark(3, 0, 2, 20), 30);
      gives("it counts, but the grade is the same", open, x -> x.remark(3, 0, 2, 15), 0);
      gives("it does not count", strict.andThen(open), x -> x.remark(3, 0, 2, 14), 0);
      gives("worse", open, x -> x.remark(3, 0, 2, 0), 0);
    });
  }

  private static void accounts() {
    test(32, "Returns the number.", () -> {
      int[] due = {150, 60, 0, 30, 240, 60, 30, 2, 1};
      Consumer<ExamMarker> strict = x -> x.set(3, 0);
      Consumer<ExamMarker> all = strict.andThen(PUBLISHED_HALL).andThen(x -> x.appeal(0, 0))
          .andThen(x -> x.appeal(0, 2)).andThen(x -> x.remark(3, 0, 2, 20));
      for (int i = 0; i < 9; i++) {
        int what = i;
        gives("what " + what, all, x -> x.account(what), due[what]);
      }
    });
  }

  private static void reports() {
    Consumer<ExamMarker> refused = HALL.andThen(x -> answer(x, y -> y.enter(0, 0, 2, 20)));
    test(33, "Returns the number of levels.", () -> {
      gives("none", HALL, ExamMarker::levels, 0);
      gives("two", refused, ExamMarker::levels, 2);
      gives("two as well after undo", refused.andThen(ExamMarker::undo), ExamMarker::levels, 2);
    });
    test(34, "Returns a part of a level of the report.", () -> {
      int[] due = {1, 0, 13, 0};
      for (int i = 0; i < 4; i++) {
        int number = i;
        gives("part " + i, refused, x -> x.report(number / 2, number % 2), due[i]);
      }
    });
    test(34, "Returns the part.", () -> {
      Consumer<ExamMarker> again = refused.andThen(x -> answer(x, ExamMarker::publish));
      int[] due = {2, 5, 21, 1};
      for (int i = 0; i < 4; i++) {
        int number = i;
        gives("part " + i, again, x -> x.report(number / 2, number % 2), due[i]);
      }
    });
  }

  private static void counts() {
    test(35, "Returns the count.", () -> {
      Consumer<ExamMarker> all = HALL.andThen(x -> {
        x.setPoint(10, 10);
        x.enter(3, 0, 0, 20);
        x.append(0x21);
      });
      int[] due = {8, 2, 1, 1, 1, 0, 100, 1, 6, 1};
      for (int i = 0; i < 10; i++) {
        int what = i;
        gives("what " + what, all, x -> x.count(what), due[what]);
      }
      gives("published", PUBLISHED_HALL, x -> x.count(5), 1);
    });
  }
}
