import java.util.ArrayList;
import java.util.List;
import java.util.function.Supplier;

/**
 * Reads all that an object answers, each part on an object of its own: some parts change the object while they read
 * it, and an object is good for 512 calls only.
 */
final class Probe {
  /** A part of what an object answers. */
  enum Part { SCRIPTS, ENTRIES, RESULTS, SUPPOSED, SETTINGS, SEEDS, POINTS, CHANGES, TEXT, SAVED, REPORT }

  private final ExamMarker x;
  private final List<String> lines = new ArrayList<>();

  private Probe(ExamMarker x) {
    this.x = x;
  }

  static List<String> read(Part part, Supplier<ExamMarker> maker) {
    Probe probe = new Probe(maker.get());
    switch (part) {
      case SCRIPTS -> probe.scripts();
      case ENTRIES -> probe.entries();
      case RESULTS -> probe.results();
      case SUPPOSED -> probe.supposed();
      case SETTINGS -> probe.settings();
      case SEEDS -> probe.seeds();
      case POINTS -> probe.points();
      case CHANGES -> probe.changes();
      case TEXT -> probe.text();
      case SAVED -> probe.saved();
      default -> probe.report();
    }
    return probe.lines;
  }

  private void tell(String call, Boundary.Call asked) {
    lines.add(call + " -> " + Boundary.answer(x, asked));
  }

  private void numbers() {
    for (int i = 0; i < 10; i++) {
      int what = i;
      // The buffer, which undo and restore leave, and the changes are read by parts of their own.
      if (what != 7 && what != 8) {
        tell("count(" + what + ")", x -> x.count(what));
      }
    }
    for (int i = 0; i < 9; i++) {
      int what = i;
      tell("account(" + what + ")", x -> x.account(what));
    }
  }

  private void scripts() {
    numbers();
    for (int i = 0; i < 200; i++) {
      int candidate = i / 25;
      int question = i / 5 % 5;
      int what = i % 5;
      tell("script(" + candidate + ", " + question + ", " + what + ")", x -> x.script(candidate, question, what));
    }
  }

  private void entries() {
    for (int i = 0; i < 40; i++) {
      int candidate = i / 5;
      int question = i % 5;
      int size = x.script(candidate, question, 1);
      for (int j = 0; j < 2 * size; j++) {
        int index = j / 2;
        int what = j % 2;
        String call = "entry(" + candidate + ", " + question + ", " + index + ", " + what + ")";
        tell(call, x -> x.entry(candidate, question, index, what));
      }
    }
  }

  private void results() {
    for (int i = 0; i < 8; i++) {
      int candidate = i;
      for (int j = 0; j < 6; j++) {
        int what = j;
        tell("result(" + candidate + ", " + what + ")", x -> x.result(candidate, what));
      }
      tell("recount(" + candidate + ")", x -> x.recount(candidate));
      tell("ranked(" + candidate + ")", x -> x.ranked(candidate));
    }
    for (int i = 0; i < 5; i++) {
      int number = i;
      tell("graded(" + number + ")", x -> x.graded(number));
      tell("meanBits(" + number + ")", x -> x.meanBits(number));
      tell("validBits(" + number + ")", x -> x.validBits(number));
      for (int j = 0; j < 4; j++) {
        int marker = j;
        tell("correction(" + marker + ", " + number + ")", x -> x.correction(marker, number));
        tell("isSuspended(" + marker + ", " + number + ")", x -> x.isSuspended(marker, number));
      }
    }
  }

  private void supposed() {
    for (int i = 0; i < 40; i++) {
      int candidate = i / 5;
      int question = i % 5;
      String script = "(" + candidate + ", " + question + ", ";
      tell("gradeIf" + script + "1)", x -> x.gradeIf(candidate, question, 1));
      tell("needed" + script + "1)", x -> x.needed(candidate, question, 1));
      tell("needed" + script + "3)", x -> x.needed(candidate, question, 3));
    }
  }

  /** Settings can be read only by setting them, and that only before the publication, to which undo may lead. */
  private void unpublish() {
    for (int i = 0; i < 6 && x.count(5) == 1; i++) {
      tell("undo()", ExamMarker::undo);
    }
  }

  private void settings() {
    tell("set(4, 0)", x -> x.set(4, 0));
    unpublish();
    for (int i = 0; i < 5; i++) {
      int number = i;
      tell("set(" + number + ", 1)", x -> x.set(number, 1));
      tell("setMaximum(" + number + ", 40)", x -> x.setMaximum(number, 40));
      tell("setBoundary(" + number + ", ..)", x -> x.setBoundary(number, 100 - number));
    }
    for (int i = 0; i < 8; i++) {
      int candidate = i;
      tell("raise(" + candidate + ", 0)", x -> x.raise(candidate, 0));
      for (int j = 0; j < 5; j++) {
        int question = j;
        tell("excuse(" + candidate + ", " + question + ", false)", x -> x.excuse(candidate, question, false));
      }
    }
  }

  private void seeds() {
    unpublish();
    for (int i = 0; i < 125; i++) {
      int marker = i / 25 % 4;
      int question = i / 5 % 5;
      int seed = i % 5;
      // A mark of 0 tells the definitive one; it may suspend the marker, which does not matter here.
      String call = "markSeed(" + marker + ", " + question + ", " + seed + ", 0)";
      tell(call, x -> x.markSeed(marker, question, seed, 0));
    }
    for (int i = 0; i < 5; i++) {
      int question = i;
      tell("addSeed(" + question + ", 0)", x -> x.addSeed(question, 0));
    }
  }

  private void points() {
    unpublish();
    for (int i = 0; i <= 200; i++) {
      int place = i;
      tell("removePoint(" + place + ")", x -> x.removePoint(place));
    }
  }

  private void changes() {
    tell("count(8)", x -> x.count(8));
    for (int i = 0; i < 7; i++) {
      tell("undo()", ExamMarker::undo);
      numbers();
      for (int j = 0; j < 8; j++) {
        int candidate = j;
        tell("recount(" + candidate + ")", x -> x.recount(candidate));
        tell("result(" + candidate + ", 0)", x -> x.result(candidate, 0));
      }
    }
  }

  private void text() {
    tell("errorPosition()", ExamMarker::errorPosition);
    tell("count(7)", x -> x.count(7));
    tell("sheet()", ExamMarker::sheet);
    tell("errorPosition() of the rest", ExamMarker::errorPosition);
    tell("count(7) after sheet()", x -> x.count(7));
    entries();
  }

  private void saved() {
    tell("restore()", ExamMarker::restore);
    scripts();
    settings();
  }

  private void report() {
    tell("levels()", ExamMarker::levels);
    for (int i = 0; i < 6; i++) {
      int level = i / 2;
      int what = i % 2;
      tell("report(" + level + ", " + what + ")", x -> x.report(level, what));
    }
  }
}
