import java.util.function.Consumer;

/** Boundaries of publication, appeals, pay and reports: promises 28 to 34. */
final class AppealBoundaries extends Boundary {
  private static final Consumer<ExamMarker> WITHDRAWN = PUBLISHED.andThen(ExamMarker::withdraw);

  private AppealBoundaries() {
  }

  static void run() {
    publishing();
    refusedPublications();
    whilePublished();
    withdrawing();
    appealing();
    refusedAppeals();
    remarking();
    refusedRemarks();
    countedRemarks();
    refunds();
    accounts();
    pay();
    reports();
  }

  private static Consumer<ExamMarker> filled(int marker, int candidate, int... marks) {
    return x -> fill(x, marker, candidate, marks);
  }

  private static Consumer<ExamMarker> appealed(int candidate, int... questions) {
    return x -> {
      for (int question : questions) {
        x.appeal(candidate, question);
      }
    };
  }

  // Promises 28 and 29

  private static void publishing() {
    test(28, "They can be published if, for each candidate that has a grade, no script of a question that is not "
        + "excused is missing or disputed.", () -> {
      gives("without candidates", NOTHING, ExamMarker::publish, 0);
      gives("one candidate", TENS, ExamMarker::publish, 1);
      gives("all candidates", x -> {
        for (int candidate = 0; candidate < 8; candidate++) {
          fill(x, 3, candidate, 0, 0, 0, 0, 0);
        }
      }, ExamMarker::publish, 8);
      gives("two excused questions are missing", filled(0, 7, 1, 1, 1).andThen(x -> {
        x.excuse(7, 3, true);
        x.excuse(7, 4, true);
      }), ExamMarker::publish, 1);
      gives("an excused question is disputed", TENS.andThen(x -> {
        x.enter(1, 0, 4, 20);
        x.excuse(0, 4, true);
      }), ExamMarker::publish, 1);
      gives("two at the tolerance", TENS.andThen(x -> x.enter(1, 0, 4, 13)), ExamMarker::publish, 1);
      reports("two beyond it", TENS.andThen(x -> x.enter(1, 0, 4, 14)), ExamMarker::publish, 2, 0, 22, 4);
      gives("with a third", TENS.andThen(x -> {
        x.enter(1, 0, 4, 14);
        x.enter(2, 0, 4, 0);
      }), ExamMarker::publish, 1);
      gives("missing for a candidate without a grade", TENS.andThen(x -> suspend(x, 1, 0)), ExamMarker::publish, 1);
    });
    test(28, "if they are published", () -> {
      refuses("published", STATE, PUBLISHED, ExamMarker::publish);
      gives("withdrawn", WITHDRAWN, ExamMarker::publish, 1);
      gives("taken back", PUBLISHED.andThen(ExamMarker::undo), ExamMarker::publish, 1);
    });
    test(28, "Returns the number of candidates with a grade.", () ->
        gives("one of them with an excused entry that is not valid", x -> {
          for (int question = 0; question < 5; question++) {
            x.enter(0, 2, question, 10);
            x.enter(1, 6, question, 10);
          }
          x.excuse(6, 0, true);
          suspend(x, 1, 0);
        }, ExamMarker::publish, 2));
  }

  private static void refusedPublications() {
    test(28, "if it is refused; this leaves a report", () ->
        reports("refused", x -> x.enter(0, 0, 0, 1), ExamMarker::publish, 2, 0, 21, 1));
    test(28, "level 0 has code 2 and the lowest candidate because of which it is refused", () -> {
      for (int i = 0; i < 8; i++) {
        int candidate = i;
        reports("candidate " + i, x -> {
          for (int other = 0; other < 8; other++) {
            int marks = other == candidate ? 4 : 5;
            fill(x, 0, other, new int[marks]);
          }
        }, ExamMarker::publish, 2, candidate, 21, 4);
        reports("candidate " + i + " and the last one", x -> {
          x.enter(0, candidate, 0, 1);
          x.enter(1, 7, 0, 1);
        }, ExamMarker::publish, 2, candidate, 21, 1);
      }
    });
    test(28, "level 1 has the lowest question that is missing or disputed, with the code 21 if it is missing, 22 "
        + "if it is disputed.", () -> {
      for (int i = 0; i < 5; i++) {
        int question = i;
        reports("missing " + i, x -> {
          for (int other = 0; other < 5; other++) {
            if (other != question) {
              x.enter(0, 7, other, 10);
            }
          }
        }, ExamMarker::publish, 2, 7, 21, question);
        reports("disputed " + i, filled(0, 7, 10, 10, 10, 10, 10).andThen(x -> x.enter(1, 7, question, 14)),
            ExamMarker::publish, 2, 7, 22, question);
        reports("not valid " + i, filled(0, 7, 10, 10, 10, 10, 10).andThen(x -> suspend(x, 0, question)),
            ExamMarker::publish, 2, 7, 21, question);
      }
      reports("disputed before missing", filled(0, 7, 10, 0).andThen(x -> x.enter(1, 7, 1, 20)),
          ExamMarker::publish, 2, 7, 22, 1);
      reports("missing before disputed", x -> {
        x.enter(0, 7, 3, 0);
        x.enter(1, 7, 3, 20);
      }, ExamMarker::publish, 2, 7, 21, 0);
      reports("the first is excused", x -> {
        x.enter(0, 7, 0, 0);
        x.enter(0, 7, 3, 0);
        x.excuse(7, 1, true);
      }, ExamMarker::publish, 2, 7, 21, 2);
      reports("a grade by an excused question alone", x -> {
        x.enter(0, 7, 0, 0);
        x.excuse(7, 0, true);
        x.excuse(7, 1, true);
      }, ExamMarker::publish, 2, 7, 21, 2);
    });
  }

  private static void whilePublished() {
    test(28, "While they are published, only appeals and remarks are possible among all that changes marks, seeds, "
        + "maxima, circumstances, the curve, boundaries and other settings but the fee.", () -> {
      Consumer<ExamMarker> all = x -> {
        x.addSeed(0, 10);
        x.setPoint(50, 50);
        PUBLISHED.accept(x);
      };
      refuses("setMaximum", UNSUPPORTED, all, x -> x.setMaximum(4, 40));
      refuses("set", UNSUPPORTED, all, x -> x.set(0, 1));
      refuses("addSeed", UNSUPPORTED, all, x -> x.addSeed(4, 10));
      refuses("markSeed", UNSUPPORTED, all, x -> x.markSeed(3, 0, 0, 10));
      reports("enter", all, x -> x.enter(3, 7, 4, 10), 1, 0, 11, 0);
      refusesSheet("sheet", all, "3/4:7=10", 1, 0, 11, 0);
      refuses("excuse", UNSUPPORTED, all, x -> x.excuse(7, 4, true));
      refuses("raise", UNSUPPORTED, all, x -> x.raise(7, 1));
      refuses("setPoint", UNSUPPORTED, all, x -> x.setPoint(51, 50));
      refuses("removePoint", UNSUPPORTED, all, x -> x.removePoint(50));
      refuses("setBoundary", UNSUPPORTED, all, x -> x.setBoundary(0, 71));
      gives("the fee", all, x -> x.set(4, 99), 30);
      gives("appeal", all, x -> x.appeal(0, 4), 30);
      gives("remark", all.andThen(appealed(0, 4)), x -> x.remark(3, 0, 4, 10), 0);
    });
    test(28, "The results are published or not.", () -> {
      gives("at first", NOTHING, x -> x.count(5), 0);
      gives("published", PUBLISHED, x -> x.count(5), 1);
      gives("withdrawn", WITHDRAWN, x -> x.count(5), 0);
      gives("refused", x -> {
        x.enter(0, 0, 0, 1);
        answer(x, ExamMarker::publish);
      }, x -> x.count(5), 0);
    });
  }

  private static void withdrawing() {
    test(29, "if the results are not published", () -> {
      refuses("never", STATE, TENS, ExamMarker::withdraw);
      refuses("withdrawn", STATE, WITHDRAWN, ExamMarker::withdraw);
      refuses("taken back", STATE, PUBLISHED.andThen(ExamMarker::undo), ExamMarker::withdraw);
      gives("published", PUBLISHED, ExamMarker::withdraw, 1);
      gives("published without candidates", ExamMarker::publish, ExamMarker::withdraw, 0);
    });
    test(29, "if an appeal was made", () -> {
      refuses("an open one", UNSUPPORTED, PUBLISHED.andThen(appealed(0, 0)), ExamMarker::withdraw);
      refuses("the last script", UNSUPPORTED, filled(0, 7, 1, 1, 1, 1, 1).andThen(ExamMarker::publish)
          .andThen(appealed(7, 4)), ExamMarker::withdraw);
      gives("one that was taken back", PUBLISHED.andThen(appealed(0, 0)).andThen(ExamMarker::undo),
          ExamMarker::withdraw, 1);
      gives("one that was refused", PUBLISHED.andThen(x -> answer(x, y -> y.appeal(1, 0))), ExamMarker::withdraw, 1);
    });
    test(29, "Results that are published cannot be withdrawn if an appeal was made, also if its remark was "
        + "made.", () -> {
      Consumer<ExamMarker> open = PUBLISHED.andThen(appealed(0, 4));
      refuses("a remark that counts", UNSUPPORTED, open.andThen(x -> x.remark(1, 0, 4, 14)), ExamMarker::withdraw);
      refuses("one that does not", UNSUPPORTED, open.andThen(x -> x.remark(1, 0, 4, 13)), ExamMarker::withdraw);
    });
  }

  // Promise 30

  private static void appealing() {
    Consumer<ExamMarker> ends = filled(0, 0, 1, 1, 1, 1, 1).andThen(filled(0, 7, 1, 1, 1, 1, 1))
        .andThen(ExamMarker::publish);
    test(30, "- `candidate`: the candidate", () ->
        gives("the last", ends.andThen(appealed(7, 0)), x -> x.script(7, 0, 4), 1));
    test(30, "- `question`: the question", () ->
        gives("the last", ends.andThen(appealed(0, 4)), x -> x.script(0, 4, 4), 1));
    test(30, "if there is no such candidate or question", () -> {
      range(INDEX, 0, 7, ends, (x, n) -> x.appeal(n, 0), 30, 30);
      range(INDEX, 0, 4, ends, (x, n) -> x.appeal(0, n), 30, 30);
    });
    test(30, "if it is refused; this leaves a report", () ->
        reports("refused", NOTHING, x -> x.appeal(7, 4), 3, 7, 31, 0));
    test(30, "the fee, from 0 to 99 and at first 30, is paid then", () -> {
      for (int fee : new int[] {0, 1, 30, 98, 99}) {
        Consumer<ExamMarker> set = ends.andThen(x -> x.set(4, fee));
        gives("fee " + fee, set, x -> x.appeal(7, 4), fee);
        gives("paid " + fee, set.andThen(appealed(7, 4)), x -> x.account(5), fee);
        gives("changed after " + fee, set.andThen(appealed(7, 4)).andThen(x -> x.set(4, 50)), x -> x.account(5), fee);
      }
    });
    test(30, "also for a script without an entry or of an excused question", () -> {
      Consumer<ExamMarker> three = x -> {
        fill(x, 0, 7, 1, 1, 1, 10);
        x.excuse(7, 3, true);
        x.excuse(7, 4, true);
        x.publish();
      };
      gives("of an excused question", three, x -> x.appeal(7, 3), 30);
      gives("without an entry", three, x -> x.appeal(7, 4), 30);
      gives("open without an entry", three.andThen(appealed(7, 4)), x -> x.script(7, 4, 4), 1);
    });
  }

  private static Consumer<ExamMarker> everybodyMarked() {
    return x -> {
      for (int candidate = 0; candidate < 8; candidate++) {
        fill(x, 0, candidate, 1, 1, 1, 1, 1);
      }
      x.publish();
    };
  }

  /** Only this candidate has made appeals. */
  private static Consumer<ExamMarker> alone(int candidate, int appeals) {
    return everybodyMarked().andThen(x -> {
      for (int question = 0; question < appeals; question++) {
        x.appeal(candidate, question);
      }
    });
  }

  /** All candidates have made three appeals, for scripts next to those of this one, which has made so many. */
  private static Consumer<ExamMarker> everybody(int candidate, int appeals) {
    return everybodyMarked().andThen(x -> {
      for (int other = 0; other < 8; other++) {
        for (int number = 0; number < (other == candidate ? appeals : 3); number++) {
          x.appeal(other, other < candidate ? 4 - number : number);
        }
      }
    });
  }

  private static void refusedAppeals() {
    Consumer<ExamMarker> five = x -> {
      fill(x, 0, 7, 1, 1, 1, 1, 1);
      fill(x, 0, 6, 1, 1, 1, 1, 1);
      x.publish();
    };
    test(30, "31 and 0, the results are not published", () -> {
      reports("not yet", TENS, x -> x.appeal(0, 0), 3, 0, 31, 0);
      reports("withdrawn", WITHDRAWN, x -> x.appeal(0, 4), 3, 0, 31, 0);
      gives("published", PUBLISHED, x -> x.appeal(0, 0), 30);
    });
    test(30, "32 and the candidate, it has no grade", () -> {
      for (int i = 0; i < 6; i++) {
        int candidate = i;
        reports("candidate " + i, five, x -> x.appeal(candidate, 0), 3, candidate, 32, candidate);
      }
      gives("one with a grade", five, x -> x.appeal(6, 0), 30);
      Consumer<ExamMarker> last = PUBLISHED.andThen(ExamMarker::withdraw).andThen(ExamMarker::publish);
      reports("the last candidate", last, x -> x.appeal(7, 4), 3, 7, 32, 7);
    });
    test(30, "33 and the question, there was an appeal already", () -> {
      for (int i = 0; i < 5; i++) {
        int question = i;
        Consumer<ExamMarker> open = five.andThen(appealed(7, question));
        reports("open, " + i, open, x -> x.appeal(7, question), 3, 7, 33, question);
        reports("a remark that counts, " + i, open.andThen(x -> x.remark(1, 7, question, 20)),
            x -> x.appeal(7, question), 3, 7, 33, question);
        reports("one that does not, " + i, open.andThen(x -> x.remark(1, 7, question, 1)),
            x -> x.appeal(7, question), 3, 7, 33, question);
        gives("another candidate, " + i, open, x -> x.appeal(6, question), 30);
        gives("another question, " + i, open, x -> x.appeal(7, (question + 1) % 5), 30);
      }
    });
    test(30, "34 and 3, there were 3 appeals", () -> {
      gives("a third", five.andThen(appealed(7, 0, 1)), x -> x.appeal(7, 4), 30);
      reports("a fourth", five.andThen(appealed(7, 0, 1, 2)), x -> x.appeal(7, 4), 3, 7, 34, 3);
      reports("a fourth before them", five.andThen(appealed(7, 2, 3, 4)), x -> x.appeal(7, 0), 3, 7, 34, 3);
      reports("a fourth after three remarks", five.andThen(appealed(7, 0, 1, 2)).andThen(x -> {
        x.remark(1, 7, 0, 1);
        x.remark(1, 7, 1, 20);
        x.remark(1, 7, 2, 0);
      }), x -> x.appeal(7, 3), 3, 7, 34, 3);
      gives("of another candidate", five.andThen(appealed(7, 0, 1, 2)), x -> x.appeal(6, 0), 30);
      for (int i = 0; i < 8; i++) {
        int candidate = i;
        gives("a third of " + i, everybody(candidate, 2), x -> x.appeal(candidate, 4), 30);
        reports("a fourth of " + i, everybody(candidate, 3), x -> x.appeal(candidate, 4), 3, candidate, 34, 3);
        gives("a third of " + i + " alone", alone(candidate, 2), x -> x.appeal(candidate, 4), 30);
        reports("a fourth of " + i + " alone", alone(candidate, 3), x -> x.appeal(candidate, 4), 3, candidate, 34, 3);
      }
      gives("the third was taken back", five.andThen(appealed(7, 0, 1, 2)).andThen(ExamMarker::undo),
          x -> x.appeal(7, 4), 30);
    });
    test(30, "once for each script and at most 3 for a candidate", () ->
        gives("three for each candidate", x -> {
          for (int candidate = 0; candidate < 8; candidate++) {
            fill(x, 0, candidate, 1, 1, 1, 1, 1);
          }
          x.publish();
          for (int candidate = 0; candidate < 8; candidate++) {
            appealed(candidate, 4, 0, 2).accept(x);
          }
        }, x -> x.account(7), 24));
  }

  // Promise 31

  private static void remarking() {
    Consumer<ExamMarker> ends = x -> {
      fill(x, 1, 0, 1, 1, 1, 1, 1);
      fill(x, 1, 7, 1, 1, 1, 1, 1);
      x.publish();
      x.appeal(0, 0);
      x.appeal(0, 4);
      x.appeal(7, 0);
    };
    test(31, "- `marker`: the marker", () ->
        gives("the last", ends.andThen(x -> x.remark(3, 0, 0, 1)), x -> x.account(3), 30));
    test(31, "- `candidate`: the candidate", () ->
        gives("the last", ends.andThen(x -> x.remark(3, 7, 0, 9)), x -> x.script(7, 0, 0), 1080));
    test(31, "- `question`: the question", () ->
        gives("the last", ends.andThen(x -> x.remark(3, 0, 4, 9)), x -> x.script(0, 4, 0), 1080));
    test(31, "- `mark`: the mark", () -> {
      gives("all", ends.andThen(x -> x.remark(3, 0, 4, 20)), x -> x.script(0, 4, 0), 2400);
      Consumer<ExamMarker> open = PUBLISHED.andThen(appealed(0, 4));
      gives("nothing", open.andThen(x -> x.remark(3, 0, 4, 0)), x -> x.script(0, 4, 0), 0);
    });
    test(31, "if there is no such marker, candidate or question", () -> {
      range(INDEX, 0, 3, ends, (x, n) -> x.remark(n, 0, 0, 1), 0, 0);
      range(INDEX, 0, 7, ends, (x, n) -> x.remark(0, n, 0, 1), 0, 0);
      range(INDEX, 0, 4, ends, (x, n) -> x.remark(0, 0, n, 1), 0, 0);
    });
    test(31, "if the mark is negative", () -> {
      gives("0", ends, x -> x.remark(0, 0, 0, 0), 0);
      refuses("-1", ARGUMENT, ends, x -> x.remark(0, 0, 0, -1));
      refuses("the least int", ARGUMENT, ends, x -> x.remark(0, 0, 0, LOW));
    });
    test(31, "if it is refused; this leaves a report", () ->
        reports("refused", NOTHING, x -> x.remark(3, 7, 4, 20), 4, 7, 41, 4));
  }

  private static void refusedRemarks() {
    Consumer<ExamMarker> open = x -> {
      fill(x, 1, 7, 10, 10, 10, 10, 0);
      x.enter(2, 7, 4, 20);
      x.enter(3, 7, 4, 19);
      x.publish();
      x.appeal(7, 4);
    };
    test(31, "41 and the question, there is no open appeal", () -> {
      reports("not published", TENS, x -> x.remark(1, 0, 3, 10), 4, 0, 41, 3);
      reports("published, without an appeal", PUBLISHED, x -> x.remark(1, 0, 3, 10), 4, 0, 41, 3);
      for (int i = 0; i < 4; i++) {
        int question = i;
        reports("another question, " + i, open, x -> x.remark(0, 7, question, 10), 4, 7, 41, question);
      }
      reports("another candidate", open, x -> x.remark(0, 6, 4, 10), 4, 6, 41, 4);
      Call again = x -> x.remark(0, 7, 4, 10);
      reports("a remark that counts was made", open.andThen(x -> x.remark(0, 7, 4, 0)), again, 4, 7, 41, 4);
      reports("one that does not count was made", open.andThen(x -> x.remark(0, 7, 4, 19)), again, 4, 7, 41, 4);
      reports("the appeal was taken back", open.andThen(ExamMarker::undo), x -> x.remark(0, 7, 4, 10), 4, 7, 41, 4);
      gives("the remark was taken back", open.andThen(x -> x.remark(0, 7, 4, 19)).andThen(ExamMarker::undo),
          x -> x.remark(0, 7, 4, 19), 0);
    });
    test(31, "42 and the maximum, the mark is greater", () -> {
      for (int maximum : new int[] {1, 20, 40}) {
        Consumer<ExamMarker> setup = x -> {
          x.setMaximum(2, maximum);
          fill(x, 1, 3, 1, 1, 1, 1, 1);
          x.publish();
          x.appeal(3, 2);
        };
        gives("as great as " + maximum, setup, x -> x.remark(0, 3, 2, maximum), 0);
        reports("greater than " + maximum, setup, x -> x.remark(0, 3, 2, maximum + 1), 4, 3, 42, maximum);
        reports("the greatest int, " + maximum, setup, x -> x.remark(0, 3, 2, HIGH), 4, 3, 42, maximum);
      }
    });
    test(31, "43 and the marker, it made an entry of this script", () -> {
      for (int i = 1; i < 4; i++) {
        int marker = i;
        reports("marker " + i, open, x -> x.remark(marker, 7, 4, 10), 4, 7, 43, marker);
      }
      gives("the marker without an entry", open, x -> x.remark(0, 7, 4, 10), 0);
      gives("one with an entry of another script", PUBLISHED.andThen(ExamMarker::withdraw).andThen(x -> {
        fill(x, 3, 7, 1, 1, 1, 1, 1);
        x.publish();
        x.appeal(0, 4);
      }), x -> x.remark(3, 0, 4, 10), 0);
      reports("an entry that is not valid", x -> {
        fill(x, 1, 0, 10, 10, 10, 10, 10);
        x.enter(0, 0, 4, 10);
        suspend(x, 0, 4);
        x.publish();
        x.appeal(0, 4);
      }, x -> x.remark(0, 0, 4, 20), 4, 0, 43, 0);
    });
    test(31, "It is open until there is a remark, a mark from 0 to the maximum, by a marker who made no entry of "
        + "the script.", () -> {
          gives("open", open, x -> x.account(8), 1);
          gives("still open", open.andThen(x -> answer(x, y -> y.remark(1, 7, 4, 10))), x -> x.account(8), 1);
          gives("with its remark", open.andThen(x -> x.remark(0, 7, 4, 19)), x -> x.account(8), 0);
          gives("by a suspended marker", x -> {
            suspend(x, 3, 0);
            PUBLISHED.accept(x);
            x.appeal(0, 0);
            x.remark(3, 0, 0, 20);
          }, x -> x.script(0, 0, 0), 2400);
        });
  }

  private static void remarked(String what, int tolerance, int settled, int mark, boolean counts) {
    Consumer<ExamMarker> setup = x -> {
      x.set(2, tolerance);
      fill(x, 0, 0, settled, 10, 10, 10, 10);
      x.publish();
      x.appeal(0, 0);
      x.remark(1, 0, 0, mark);
    };
    gives(what + ": state", setup, x -> x.script(0, 0, 4), counts ? 3 : 2);
    gives(what + ": settled mark", setup, x -> x.script(0, 0, 0), (counts ? mark : settled) * 120);
  }

  /** A remark of 20 points, where the settled mark before is 20 points, less a difference in units. */
  private static void remarkedUnits(String what, int tolerance, int difference, int state) {
    gives(what, x -> {
      x.set(0, 0);
      x.set(2, tolerance);
      x.setMaximum(0, 40);
      int points = Math.floorDiv(difference, 120);
      int rest = Math.floorMod(difference, 120) / 24;
      deviate(x, 0, 0, rest, 0, 0, 0, 0);
      fill(x, 0, 0, 20 - points, 10, 10, 10, 10);
      x.publish();
      x.appeal(0, 0);
      x.remark(1, 0, 0, 20);
    }, x -> x.script(0, 0, 4), state);
  }

  private static void countedRemarks() {
    test(31, "it does if it and the settled mark before differ by more than the tolerance", () -> {
      for (int tolerance = 0; tolerance <= 10; tolerance++) {
        remarked("at " + tolerance, tolerance, 0, tolerance, false);
        remarked("beyond " + tolerance, tolerance, 0, tolerance + 1, true);
        remarked("at " + tolerance + ", downwards", tolerance, 20, 20 - tolerance, false);
        remarked("beyond " + tolerance + ", downwards", tolerance, 20, 19 - tolerance, true);
        remarkedUnits("24 units beyond " + tolerance, tolerance, tolerance * 120 + 24, 3);
        remarkedUnits("24 units beyond " + tolerance + ", downwards", tolerance, -tolerance * 120 - 24, 3);
        remarkedUnits("24 units below " + tolerance, tolerance, tolerance * 120 - 24, tolerance == 0 ? 3 : 2);
        remarkedUnits("24 units below " + tolerance + ", downwards", tolerance, 24 - tolerance * 120,
            tolerance == 0 ? 3 : 2);
      }
      gives("the settled mark, not the entry", x -> {
        fill(x, 0, 0, 10, 10, 10, 10, 10);
        x.enter(1, 0, 0, 13);
        x.publish();
        x.appeal(0, 0);
        x.remark(2, 0, 0, 8);
      }, x -> x.script(0, 0, 4), 3);
    });
    test(31, "Whether the remark counts is decided when it is made", () ->
        gives("an appeal of another question makes no difference", PUBLISHED.andThen(appealed(0, 0, 1)).andThen(x -> {
          x.remark(1, 0, 0, 13);
          x.remark(1, 0, 1, 14);
        }), x -> x.script(0, 0, 4) * 10 + x.script(0, 1, 4), 23));
  }

  /** The refund of a remark of question 0, of a candidate whose other questions have the marks. */
  private static void refunded(String what, int due, int mark, int... marks) {
    Consumer<ExamMarker> setup = x -> {
      x.set(2, 0);
      fill(x, 0, 7, marks);
      x.publish();
      x.set(4, 77);
      x.appeal(7, 0);
      x.set(4, 1);
    };
    gives(what, setup, x -> x.remark(1, 7, 0, mark), due);
    gives(what + ": account", setup.andThen(x -> x.remark(1, 7, 0, mark)), x -> x.account(6), due);
    gives(what + ": paid", setup.andThen(x -> x.remark(1, 7, 0, mark)), x -> x.account(5), 77);
  }

  private static void refunds() {
    test(31, "If the grade of the candidate is better than before, the fee that was paid is refunded.", () -> {
      refunded("just better", 77, 20, 19, 20, 10, 10, 0);
      refunded("a point too little", 0, 19, 18, 20, 10, 10, 0);
      refunded("better, by a lift", 77, 10, 9, 12, 12, 12, 12);
      refunded("not better, without a lift", 0, 9, 8, 12, 12, 12, 12);
      refunded("two grades better", 77, 20, 0, 10, 10, 10, 20);
      refunded("worse", 0, 0, 20, 20, 10, 10, 0);
      refunded("the same", 0, 10, 10, 10, 10, 10, 10);
      gives("one that does not count", x -> {
        fill(x, 0, 7, 17, 20, 10, 10, 0);
        x.publish();
        x.appeal(7, 0);
      }, x -> x.remark(1, 7, 0, 20), 0);
      gives("of an excused question", x -> {
        fill(x, 0, 7, 0, 10, 10, 10, 10);
        x.excuse(7, 0, true);
        x.publish();
        x.appeal(7, 0);
      }, x -> x.remark(1, 7, 0, 20), 0);
      gives("better by a lower mark on a falling curve", x -> {
        fill(x, 0, 7, 20, 0, 0, 0, 0);
        x.setPoint(0, 100);
        x.setPoint(100, 0);
        x.setPoint(19, 70);
        x.setPoint(20, 67);
        x.publish();
        x.appeal(7, 0);
      }, x -> x.remark(1, 7, 0, 16), 30);
      gives("no fee was paid", x -> {
        fill(x, 0, 7, 0, 10, 10, 10, 10);
        x.publish();
        x.set(4, 0);
        x.appeal(7, 0);
        x.set(4, 99);
      }, x -> x.remark(1, 7, 0, 20), 0);
    });
  }

  // Promise 32

  private static void accounts() {
    Consumer<ExamMarker> ends = x -> {
      x.setMaximum(4, 40);
      fill(x, 0, 0, 10, 10, 10, 10, 20);
      x.enter(3, 0, 4, 20);
      x.publish();
      x.appeal(0, 0);
      x.appeal(0, 4);
      x.remark(1, 0, 0, 20);
    };
    test(32, "- `what`: 0 to 3 for the pay of the marker with this number, 4 for the pay of all, 5 for the fees "
        + "paid, 6 for the fees refunded, 7 for the number of appeals, 8 for the number of open ones", () -> {
      int[] due = {170, 30, 0, 50, 250, 60, 0, 2, 1};
      for (int i = 0; i <= 8; i++) {
        int what = i;
        gives("what " + i, ends, x -> x.account(what), due[i]);
        gives("what " + i + " at first", NOTHING, x -> x.account(what), 0);
      }
    });
    test(32, "if what is not from 0 to 8", () -> range(ARGUMENT, 0, 8, ends, (x, n) -> x.account(n), 170, 1));
    test(32, "Returns a number of the accounts.", () -> {
      Consumer<ExamMarker> all = x -> {
        for (int candidate = 0; candidate < 8; candidate++) {
          fill(x, 0, candidate, 0, 0, 0, 0, 0);
        }
        x.publish();
        x.set(4, 99);
        for (int candidate = 0; candidate < 8; candidate++) {
          appealed(candidate, 0, 3, 4).accept(x);
        }
      };
      gives("all appeals", all, x -> x.account(7), 24);
      gives("all of them open", all, x -> x.account(8), 24);
      gives("all fees", all, x -> x.account(5), 24 * 99);
      Consumer<ExamMarker> closed = all.andThen(x -> {
        for (int candidate = 0; candidate < 8; candidate++) {
          x.remark(3, candidate, 0, 20);
          x.remark(3, candidate, 3, 20);
          x.remark(3, candidate, 4, 20);
        }
      });
      gives("no open one", closed, x -> x.account(8), 0);
      gives("all appeals with their remarks", closed, x -> x.account(7), 24);
      gives("fees refunded for the second and third of each", closed, x -> x.account(6), 16 * 99);
      gives("pay for all remarks", closed, x -> x.account(3), 24 * 30);
    });
  }

  private static void pay() {
    test(32, "A marker earns 10 plus the maximum of the question, as it is at that time, for each entry, each seed "
        + "that it marks, and each remark.", () -> {
      for (int maximum : new int[] {1, 20, 40}) {
        Consumer<ExamMarker> set = x -> x.setMaximum(4, maximum);
        Consumer<ExamMarker> raised = x -> x.setMaximum(4, maximum == 40 ? 39 : 40);
        gives("an entry, " + maximum, set.andThen(x -> x.enter(3, 7, 4, 1)).andThen(raised),
            x -> x.account(3), 10 + maximum);
        gives("a mark of a seed, " + maximum, set.andThen(x -> deviate(x, 3, 4, 1)).andThen(raised),
            x -> x.account(3), 10 + maximum);
        gives("a sheet, " + maximum, set.andThen(x -> Sheets.put(x, "3/4:7=1,6=1")).andThen(ExamMarker::sheet)
            .andThen(raised), x -> x.account(3), 2 * (10 + maximum));
        gives("a remark, " + maximum, set.andThen(filled(0, 7, 1, 1, 1, 1, 1)).andThen(ExamMarker::publish)
            .andThen(appealed(7, 4)).andThen(x -> x.remark(3, 7, 4, 1)), x -> x.account(3), 10 + maximum);
      }
      gives("a seed alone", x -> x.addSeed(0, 1), x -> x.account(4), 0);
      gives("a refused entry", x -> answer(x, y -> y.enter(0, 0, 0, 21)), x -> x.account(4), 0);
      gives("an entry of a suspended marker", x -> {
        suspend(x, 3, 4);
        x.enter(3, 7, 4, 1);
      }, x -> x.account(3), 60);
    });
  }

  // Promises 33 and 34

  private static void reports() {
    Consumer<ExamMarker> told = x -> answer(x, y -> y.appeal(7, 4));
    test(33, "At first there are no levels.", () -> gives("at first", NOTHING, ExamMarker::levels, 0));
    test(33, "Returns the number of levels of the report.", () -> {
      gives("an entry", x -> answer(x, y -> y.enter(0, 0, 0, 21)), ExamMarker::levels, 2);
      gives("a sheet", x -> {
        Sheets.put(x, "0/0:0=99");
        answer(x, ExamMarker::sheet);
      }, ExamMarker::levels, 2);
      gives("a publication", x -> {
        x.enter(0, 0, 0, 1);
        answer(x, ExamMarker::publish);
      }, ExamMarker::levels, 2);
      gives("an appeal", told, ExamMarker::levels, 2);
      gives("a remark", x -> answer(x, y -> y.remark(0, 0, 0, 0)), ExamMarker::levels, 2);
      gives("an answer", TENS, ExamMarker::levels, 0);
    });
    test(34, "- `level`: the level", () -> gives("the second", told, x -> x.report(1, 0), 31));
    test(34, "- `what`: 0 for the code, 1 for the detail", () -> gives("detail", told, x -> x.report(0, 1), 7));
    test(34, "if there is no such level", () -> {
      range(NONE, 0, 1, told, (x, n) -> x.report(n, 0), 3, 31);
      range(NONE, 0, 1, told, (x, n) -> x.report(n, 1), 7, 0);
      refuses("no level 0", NONE, TENS, x -> x.report(0, 0));
      refuses("no level -1", NONE, TENS, x -> x.report(-1, 0));
      refuses("no level 1", NONE, TENS, x -> x.report(1, 0));
    });
    test(34, "if what is not 0 or 1", () -> {
      range(ARGUMENT, 0, 1, told, (x, n) -> x.report(0, n), 3, 7);
      range(ARGUMENT, 0, 1, told, (x, n) -> x.report(1, n), 31, 0);
    });
    test(34, "A refusal of enter, sheet, publish, appeal or remark leaves a report, which replaces the "
        + "earlier one.", () -> {
      Consumer<ExamMarker> entry = told.andThen(x -> x.enter(2, 3, 4, 1));
      reports("enter", entry, x -> x.enter(2, 3, 4, 1), 1, 0, 13, 2);
      refusesSheet("sheet", entry, "2/4:7=1,3=1", 1, 1, 13, 2);
      reports("publish", entry, ExamMarker::publish, 2, 3, 21, 0);
      reports("appeal", entry, x -> x.appeal(3, 4), 3, 3, 31, 0);
      reports("remark", entry, x -> x.remark(0, 3, 4, 1), 4, 3, 41, 4);
      refuses("withdraw leaves none", STATE, entry, ExamMarker::withdraw);
      refuses("setMaximum leaves none", STATE, entry.andThen(x -> x.enter(3, 3, 4, 2)), x -> x.setMaximum(4, 1));
      misreads("an error in a sheet leaves none", entry, "2/4:7=1,", 8);
    });
    test(34, "A report has levels, numbered from 0, each of which has a code and a detail; each level is the cause "
        + "of the one before it.", () -> {
      reported("an appeal", made(told), 3, 7, 31, 0);
      Consumer<ExamMarker> refused = TENS.andThen(x -> {
        x.enter(0, 6, 0, 1);
        answer(x, ExamMarker::publish);
      });
      reported("a publication", made(refused), 2, 6, 21, 1);
    });
  }
}
