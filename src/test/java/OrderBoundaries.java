import java.util.function.Consumer;

/** Where several exceptions, or several reasons of a refusal, are possible: the one that is listed first. */
final class OrderBoundaries extends Boundary {
  private static final String FIRST =
      "If several exceptions are possible, the one listed first in the description of the method is thrown.";
  private static final String REASON = "level 1 has the code of the first reason that applies";

  /** Question 4 has a maximum of 20, five seeds that marker 3 marked, and entries of candidate 7 up to 12. */
  private static final Consumer<ExamMarker> FULL = x -> {
    deviate(x, 3, 4, 1, 1, 1, 1, 1);
    fill(x, 0, 7, 12, 12, 12, 12, 12);
    x.enter(1, 7, 4, 12);
  };

  private static final Consumer<ExamMarker> FULL_PUBLISHED = FULL.andThen(ExamMarker::publish);

  private OrderBoundaries() {
  }

  static void run() {
    settings();
    seeds();
    texts();
    circumstances();
    curves();
    results();
    publication();
    reasonsOfEntries();
    reasonsOfAppeals();
  }

  private static void settings() {
    test(2, FIRST, () -> {
      refuses("no question, wrong maximum", INDEX, FULL, x -> x.setMaximum(5, 41));
      refuses("no question, published", INDEX, FULL_PUBLISHED, x -> x.setMaximum(5, 20));
      refuses("no question, wrong maximum, published", INDEX, FULL_PUBLISHED, x -> x.setMaximum(-1, 0));
      refuses("wrong maximum, published", ARGUMENT, FULL_PUBLISHED, x -> x.setMaximum(4, 41));
      refuses("wrong maximum, greater entry", ARGUMENT, FULL, x -> x.setMaximum(4, 0));
      refuses("wrong maximum, published, greater entry", ARGUMENT, FULL_PUBLISHED, x -> x.setMaximum(4, 0));
      refuses("published, greater entry", UNSUPPORTED, FULL_PUBLISHED, x -> x.setMaximum(4, 11));
      refuses("greater entry", STATE, FULL, x -> x.setMaximum(4, 11));
    });
    test(3, FIRST, () -> {
      refuses("no setting, wrong value", INDEX, FULL, x -> x.set(5, -1));
      refuses("no setting, published", INDEX, FULL_PUBLISHED, x -> x.set(5, 1));
      refuses("no setting below, published", INDEX, FULL_PUBLISHED, x -> x.set(-1, 1));
      for (int i = 0; i < 4; i++) {
        int what = i;
        refuses("wrong value, published, " + i, ARGUMENT, FULL_PUBLISHED, x -> x.set(what, -1));
        refuses("published, " + i, UNSUPPORTED, FULL_PUBLISHED, x -> x.set(what, 1));
      }
    });
  }

  private static void seeds() {
    test(4, FIRST, () -> {
      refuses("no question, wrong mark", INDEX, FULL, x -> x.addSeed(5, -1));
      refuses("no question, published", INDEX, FULL_PUBLISHED, x -> x.addSeed(5, 1));
      refuses("wrong mark, published", ARGUMENT, FULL_PUBLISHED, x -> x.addSeed(0, 21));
      refuses("wrong mark, 5 seeds", ARGUMENT, FULL, x -> x.addSeed(4, 21));
      refuses("wrong mark, published, 5 seeds", ARGUMENT, FULL_PUBLISHED, x -> x.addSeed(4, -1));
      refuses("published, 5 seeds", UNSUPPORTED, FULL_PUBLISHED, x -> x.addSeed(4, 1));
      refuses("5 seeds", STATE, FULL, x -> x.addSeed(4, 1));
    });
    test(5, FIRST, () -> {
      refuses("no marker, wrong mark", INDEX, FULL, x -> x.markSeed(4, 4, 0, 21));
      refuses("no question, wrong mark", INDEX, FULL, x -> x.markSeed(3, 5, 0, 21));
      refuses("no seed, wrong mark", INDEX, FULL, x -> x.markSeed(3, 4, 5, 21));
      refuses("no seed, published", INDEX, FULL_PUBLISHED, x -> x.markSeed(3, 4, 5, 1));
      refuses("no seed at all, published", INDEX, FULL_PUBLISHED, x -> x.markSeed(3, 0, 0, 1));
      refuses("wrong mark, published", ARGUMENT, FULL_PUBLISHED, x -> x.markSeed(2, 4, 0, 21));
      refuses("wrong mark, marked already", ARGUMENT, FULL, x -> x.markSeed(3, 4, 0, -1));
      refuses("published, marked already", UNSUPPORTED, FULL_PUBLISHED, x -> x.markSeed(3, 4, 0, 1));
      refuses("marked already", STATE, FULL, x -> x.markSeed(3, 4, 0, 1));
    });
  }

  private static void texts() {
    test(8, FIRST, () -> {
      refuses("no marker, negative", INDEX, FULL, x -> x.enter(4, 7, 4, -1));
      refuses("no candidate, negative", INDEX, FULL, x -> x.enter(0, 8, 4, -1));
      refuses("no question, negative", INDEX, FULL, x -> x.enter(0, 7, 5, -1));
      refuses("no marker, published", INDEX, FULL_PUBLISHED, x -> x.enter(4, 7, 4, 1));
      refuses("no question, too great", INDEX, FULL, x -> x.enter(0, 7, 5, 21));
      refuses("negative, published", ARGUMENT, FULL_PUBLISHED, x -> x.enter(0, 7, 4, -1));
      refuses("negative, it made an entry", ARGUMENT, FULL, x -> x.enter(0, 7, 4, -1));
    });
    test(9, FIRST, () -> {
      Consumer<ExamMarker> full = x -> {
        for (int i = 0; i < 15; i++) {
          x.append(0x30303030);
        }
      };
      refuses("wrong byte, full", ARGUMENT, full, x -> x.append(0x30303020));
      refuses("wrong byte in front, full", ARGUMENT, full, x -> x.append(0x7f303030));
      refuses("full", STATE, full, x -> x.append(0x30303030));
    });
    test(10, FIRST, () -> {
      misreads("error, published", FULL_PUBLISHED, "0/4:7=1,", 8);
      misreads("error, refused entry", FULL, "0/4:7=1,", 8);
      misreads("error before a refused entry", FULL, "0/4;7=1", 3);
    });
    test(12, FIRST, () -> {
      refuses("no candidate, no entry, wrong what", INDEX, FULL, x -> x.entry(8, 4, 2, 4));
      refuses("no question, no entry", INDEX, FULL, x -> x.entry(7, 5, 0, 0));
      refuses("no question, wrong what", INDEX, FULL, x -> x.entry(7, -1, 0, -1));
      refuses("no entry, wrong what", NONE, FULL, x -> x.entry(7, 4, 2, 4));
      refuses("no entry below, wrong what", NONE, FULL, x -> x.entry(7, 4, -1, -1));
    });
    test(13, FIRST, () -> {
      refuses("no candidate, wrong what", INDEX, FULL, x -> x.script(8, 4, 5));
      refuses("no question, wrong what", INDEX, FULL, x -> x.script(7, 5, -1));
    });
  }

  private static void circumstances() {
    Consumer<ExamMarker> two = x -> {
      x.excuse(7, 0, true);
      x.excuse(7, 1, true);
    };
    test(14, FIRST, () -> {
      refuses("no question, a third", INDEX, two, x -> x.excuse(7, 5, true));
      refuses("no candidate, published", INDEX, FULL_PUBLISHED, x -> x.excuse(8, 0, true));
      refuses("no question, published", INDEX, FULL_PUBLISHED, x -> x.excuse(7, -1, true));
      refuses("published, a third", UNSUPPORTED, two.andThen(ExamMarker::publish), x -> x.excuse(7, 2, true));
      refuses("a third", STATE, two, x -> x.excuse(7, 2, true));
    });
    test(15, FIRST, () -> {
      refuses("no candidate, wrong raise", INDEX, FULL, x -> x.raise(8, 11));
      refuses("no candidate, published", INDEX, FULL_PUBLISHED, x -> x.raise(8, 1));
      refuses("wrong raise, published", ARGUMENT, FULL_PUBLISHED, x -> x.raise(7, 11));
    });
  }

  private static void curves() {
    Consumer<ExamMarker> five = x -> {
      for (int place = 1; place <= 5; place++) {
        x.setPoint(place, place);
      }
    };
    test(16, FIRST, () -> {
      refuses("wrong place, published", ARGUMENT, five.andThen(ExamMarker::publish), x -> x.setPoint(201, 0));
      refuses("wrong value, published", ARGUMENT, five.andThen(ExamMarker::publish), x -> x.setPoint(1, 101));
      refuses("wrong place, 5 points", ARGUMENT, five, x -> x.setPoint(-1, 0));
      refuses("wrong value, 5 points", ARGUMENT, five, x -> x.setPoint(6, -1));
      refuses("published, 5 points", UNSUPPORTED, five.andThen(ExamMarker::publish), x -> x.setPoint(6, 0));
      refuses("5 points", STATE, five, x -> x.setPoint(6, 0));
    });
    test(17, FIRST, () -> {
      refuses("published, no point", UNSUPPORTED, five.andThen(ExamMarker::publish), x -> x.removePoint(6));
      refuses("published, no such place", UNSUPPORTED, five.andThen(ExamMarker::publish), x -> x.removePoint(-1));
    });
    test(19, FIRST, () -> {
      refuses("no grade, wrong boundary", INDEX, FULL, x -> x.setBoundary(4, 0));
      refuses("no grade, published", INDEX, FULL_PUBLISHED, x -> x.setBoundary(-1, 50));
      refuses("wrong boundary, published", ARGUMENT, FULL_PUBLISHED, x -> x.setBoundary(0, 101));
      refuses("boundary as the next, published", ARGUMENT, FULL_PUBLISHED, x -> x.setBoundary(0, 60));
    });
  }

  private static void results() {
    test(20, FIRST, () -> {
      refuses("no candidate, wrong what", INDEX, FULL, x -> x.result(8, 6));
      refuses("no candidate", INDEX, FULL, x -> x.result(-1, 0));
      refuses("wrong what, no grade", ARGUMENT, FULL, x -> x.result(0, 6));
      refuses("wrong what below, no grade", ARGUMENT, FULL, x -> x.result(0, -1));
    });
    test(24, FIRST, () -> {
      refuses("no candidate, wrong mark", INDEX, FULL, x -> x.gradeIf(8, 4, 21));
      refuses("no question, wrong mark", INDEX, FULL, x -> x.gradeIf(7, 5, -1));
      refuses("no question, no grade", INDEX, FULL, x -> x.gradeIf(0, 5, 1));
      refuses("wrong mark, no grade", ARGUMENT, FULL, x -> x.gradeIf(0, 4, 21));
    });
    test(25, FIRST, () -> {
      refuses("no question, no grade", INDEX, FULL, x -> x.needed(0, 5, 0));
      refuses("no grade number, no grade", INDEX, FULL, x -> x.needed(0, 4, 5));
      refuses("no grade number, not sufficient", INDEX, FULL, x -> x.needed(7, 4, -1));
      refuses("no candidate", INDEX, FULL, x -> x.needed(8, 4, 0));
    });
    test(26, FIRST, () -> refuses("no question, no candidates", INDEX, NOTHING, x -> x.meanBits(5)));
    test(27, FIRST, () -> refuses("no marker, no entries", INDEX, NOTHING, x -> x.validBits(4)));
    test(34, FIRST, () -> {
      refuses("no level, wrong what", NONE, NOTHING, x -> x.report(0, 2));
      refuses("no third level, wrong what", NONE, x -> answer(x, y -> y.appeal(0, 0)), x -> x.report(2, -1));
    });
  }

  private static void publication() {
    test(28, FIRST, () -> refuses("published", STATE, FULL_PUBLISHED, ExamMarker::publish));
    test(29, FIRST, () -> {
      refuses("not published, the appeal was taken back", STATE, FULL_PUBLISHED.andThen(x -> {
        x.appeal(7, 4);
        x.undo();
        x.undo();
      }), ExamMarker::withdraw);
      refuses("an appeal", UNSUPPORTED, FULL_PUBLISHED.andThen(x -> x.appeal(7, 4)), ExamMarker::withdraw);
    });
    test(30, FIRST, () -> {
      refuses("no candidate, not published", INDEX, FULL, x -> x.appeal(8, 4));
      refuses("no question, not published", INDEX, FULL, x -> x.appeal(7, 5));
      refuses("no question, no grade", INDEX, FULL_PUBLISHED, x -> x.appeal(0, -1));
    });
    test(31, FIRST, () -> {
      refuses("no marker, negative", INDEX, FULL, x -> x.remark(4, 7, 4, -1));
      refuses("no candidate, no appeal", INDEX, FULL_PUBLISHED, x -> x.remark(0, 8, 4, 1));
      refuses("no question, too great", INDEX, FULL_PUBLISHED, x -> x.remark(0, 7, 5, 21));
      refuses("negative, no appeal", ARGUMENT, FULL_PUBLISHED, x -> x.remark(2, 7, 4, -1));
      refuses("negative, it made an entry", ARGUMENT, FULL_PUBLISHED.andThen(x -> x.appeal(7, 4)),
          x -> x.remark(0, 7, 4, -1));
    });
  }

  /** Three entries of candidate 7 for question 4, and the third is not valid, so that two valid ones agree. */
  private static final Consumer<ExamMarker> THREE = x -> {
    fill(x, 0, 7, 12, 12, 12, 12, 12);
    x.set(2, 0);
    x.enter(1, 7, 4, 11);
    x.enter(2, 7, 4, 20);
    x.set(2, 3);
    suspend(x, 2, 4);
  };

  private static void reasonsOfEntries() {
    test(8, REASON, () -> {
      Consumer<ExamMarker> published = THREE.andThen(ExamMarker::publish);
      reports("11 before 12", published, x -> x.enter(3, 0, 0, 21), 1, 0, 11, 0);
      reports("11 before 13", PUBLISHED, x -> x.enter(0, 0, 0, 1), 1, 0, 11, 0);
      reports("11 before 14", published, x -> x.enter(3, 7, 4, 1), 1, 0, 11, 0);
      reports("11 before 15", FULL_PUBLISHED, x -> x.enter(2, 7, 4, 1), 1, 0, 11, 0);
      reports("11 before all", published, x -> x.enter(0, 7, 4, 21), 1, 0, 11, 0);
      reports("12 before 13", TENS, x -> x.enter(0, 0, 0, 21), 1, 0, 12, 20);
      reports("12 before 14", THREE, x -> x.enter(3, 7, 4, 21), 1, 0, 12, 20);
      reports("12 before 15", FULL, x -> x.enter(2, 7, 4, 21), 1, 0, 12, 20);
      reports("13 before 14", THREE, x -> x.enter(2, 7, 4, 20), 1, 0, 13, 2);
      reports("13 before 15", FULL, x -> x.enter(1, 7, 4, 20), 1, 0, 13, 1);
      reports("14 before 15", THREE, x -> x.enter(3, 7, 4, 20), 1, 0, 14, 3);
      reports("15", FULL, x -> x.enter(3, 7, 4, 20), 1, 0, 15, 4);
    });
    test(10, REASON, () -> {
      refusesSheet("11 before 12", PUBLISHED, "3/4:7=21", 1, 0, 11, 0);
      refusesSheet("12 before 13", FULL, "0/4:6=1,7=21", 1, 1, 12, 20);
      refusesSheet("13 before 14", THREE, "2/4:6=1,7=20", 1, 1, 13, 2);
      refusesSheet("14 before 15", THREE, "3/4:6=1,7=20", 1, 1, 14, 3);
      refusesSheet("the first entry, not the first reason", FULL, "3/4:7=1,6=21", 1, 0, 15, 4);
    });
  }

  private static void reasonsOfAppeals() {
    test(30, REASON, () -> {
      reports("31 before 32", FULL, x -> x.appeal(0, 4), 3, 0, 31, 0);
      reports("32", FULL_PUBLISHED, x -> x.appeal(0, 4), 3, 0, 32, 0);
      reports("33 before 34", FULL_PUBLISHED.andThen(x -> {
        x.appeal(7, 2);
        x.appeal(7, 3);
        x.appeal(7, 4);
      }), x -> x.appeal(7, 3), 3, 7, 33, 3);
    });
    test(31, REASON, () -> {
      Consumer<ExamMarker> open = FULL_PUBLISHED.andThen(x -> x.appeal(7, 4));
      reports("41 before 42", FULL_PUBLISHED, x -> x.remark(2, 7, 4, 21), 4, 7, 41, 4);
      reports("41 before 43", FULL_PUBLISHED, x -> x.remark(0, 7, 4, 1), 4, 7, 41, 4);
      reports("42 before 43", open, x -> x.remark(0, 7, 4, 21), 4, 7, 42, 20);
      reports("43", open, x -> x.remark(0, 7, 4, 20), 4, 7, 43, 0);
    });
  }
}
