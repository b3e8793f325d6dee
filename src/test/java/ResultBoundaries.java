import java.util.function.Consumer;

/** Boundaries of circumstances, the curve, grades and what is asked about them: promises 14 to 27. */
final class ResultBoundaries extends Boundary {
  private static final String PUBLISHED_ALREADY = "if the results are published";
  private static final String NO_CANDIDATE = "if there is no such candidate";
  private static final String NO_GRADE = "if the candidate has no grade";

  private ResultBoundaries() {
  }

  static void run() {
    excuses();
    raises();
    points();
    removedPoints();
    curves();
    rounding();
    boundaries();
    results();
    rawResults();
    plainGrades();
    lifts();
    halfOfTheQuestions();
    hundredthsOfTheMaximum();
    recounts();
    recountedScripts();
    ranks();
    numbersOfGrades();
    supposedGrades();
    neededMarks();
    means();
    shares();
  }

  private static Consumer<ExamMarker> withdrawn() {
    return PUBLISHED.andThen(ExamMarker::withdraw);
  }

  private static Consumer<ExamMarker> excused(int candidate, int... questions) {
    return x -> {
      for (int question : questions) {
        x.excuse(candidate, question, true);
      }
    };
  }

  private static Consumer<ExamMarker> filled(int... marks) {
    return x -> fill(x, 0, 0, marks);
  }

  private static Consumer<ExamMarker> scaledTo(int scaled) {
    return x -> flat(x, scaled);
  }

  // Promises 14 and 15

  private static void excuses() {
    test(14, "- `candidate`: the candidate", () ->
        gives("another one", excused(7, 4), x -> x.excuse(6, 4, true), false));
    test(14, "- `question`: the question", () ->
        gives("another one", excused(7, 4), x -> x.excuse(7, 3, true), false));
    test(14, "- `excused`: whether it is excused", () -> {
      gives("it was", excused(7, 4), x -> x.excuse(7, 4, false), true);
      gives("it was not", excused(7, 4).andThen(x -> x.excuse(7, 4, false)), x -> x.excuse(7, 4, false), false);
    });
    test(14, "if there is no such candidate or question", () -> {
      range(INDEX, 0, 7, NOTHING, (x, n) -> x.excuse(n, 0, true), false, false);
      range(INDEX, 0, 4, NOTHING, (x, n) -> x.excuse(0, n, true), false, false);
      range(INDEX, 0, 4, excused(0, 0, 4), (x, n) -> x.excuse(0, n, false), true, true);
    });
    test(14, PUBLISHED_ALREADY, () -> {
      refuses("excused", UNSUPPORTED, PUBLISHED, x -> x.excuse(0, 0, true));
      refuses("not excused, as before", UNSUPPORTED, PUBLISHED, x -> x.excuse(0, 0, false));
      gives("withdrawn", withdrawn(), x -> x.excuse(0, 0, true), false);
    });
    test(14, "if a third question would be excused", () -> {
      for (int i = 0; i < 5; i++) {
        int question = i;
        int next = (i + 1) % 5;
        int third = (i + 3) % 5;
        gives("a second behind " + i, excused(7, question), x -> x.excuse(7, third, true), false);
        refuses("a third behind " + i, STATE, excused(7, question, next), x -> x.excuse(7, third, true));
        gives("the first of two again, " + i, excused(7, question, next), x -> x.excuse(7, question, true), true);
        gives("the second of two again, " + i, excused(7, question, next), x -> x.excuse(7, next, true), true);
        gives("a third is not excused, " + i, excused(7, question, next), x -> x.excuse(7, third, false), false);
        gives("in place of another, " + i, excused(7, question, next).andThen(x -> x.excuse(7, question, false)),
            x -> x.excuse(7, third, true), false);
        gives("of another candidate, " + i, excused(7, question, next), x -> x.excuse(6, third, true), false);
      }
    });
    test(14, "at most 2 questions are excused, and there is a raise from 0 to 10 percent, at first none "
        + "and 0", () -> {
      for (int script = 0; script < 40; script++) {
        int candidate = script / 5;
        int question = script % 5;
        gives("at first, " + script, NOTHING, x -> x.excuse(candidate, question, false), false);
      }
    });
  }

  private static void raises() {
    test(15, "- `candidate`: the candidate", () -> gives("another one", x -> x.raise(7, 5), x -> x.raise(6, 1), 0));
    test(15, NO_CANDIDATE, () -> range(INDEX, 0, 7, NOTHING, (x, n) -> x.raise(n, 1), 0, 0));
    test(15, "- `percent`: the raise, 0 to 10", () -> {
      gives("the least is kept", x -> x.raise(0, 0), x -> x.raise(0, 10), 0);
      gives("the greatest is kept", x -> x.raise(0, 10), x -> x.raise(0, 0), 10);
    });
    test(15, "if the raise is out of range", () -> {
      range(ARGUMENT, 0, 10, NOTHING, (x, n) -> x.raise(0, n), 0, 0);
      range(ARGUMENT, 0, 10, x -> x.raise(7, 9), (x, n) -> x.raise(7, n), 9, 9);
    });
    test(15, PUBLISHED_ALREADY, () -> {
      refuses("published", UNSUPPORTED, PUBLISHED, x -> x.raise(0, 0));
      gives("withdrawn", withdrawn(), x -> x.raise(0, 1), 0);
    });
  }

  // Promises 16 to 18

  private static Consumer<ExamMarker> pointsAt(int... places) {
    return x -> {
      for (int i = 0; i < places.length; i++) {
        x.setPoint(places[i], 10 * i);
      }
    };
  }

  private static void points() {
    test(16, "- `place`: the place", () -> gives("the place", x -> x.setPoint(7, 9), x -> x.removePoint(7), 9));
    test(16, "- `value`: the value", () -> gives("set again", x -> {
      x.setPoint(7, 9);
      x.setPoint(7, 8);
    }, x -> x.removePoint(7), 8));
    test(16, "if the place or the value is out of range", () -> {
      range(ARGUMENT, 0, 200, NOTHING, (x, n) -> x.setPoint(n, 50), 1, 1);
      range(ARGUMENT, 0, 100, NOTHING, (x, n) -> x.setPoint(50, n), 1, 1);
      range(ARGUMENT, 0, 100, pointsAt(50), (x, n) -> x.setPoint(50, n), 1, 1);
    });
    test(16, "The curve has at most 5 points, with different places from 0 to 200 points and values from 0 to 100, "
        + "ordered by their places.", () -> {
      gives("the least is kept", x -> x.setPoint(0, 0), x -> x.removePoint(0), 0);
      gives("the greatest is kept", x -> x.setPoint(200, 100), x -> x.removePoint(200), 100);
      gives("the same place", pointsAt(50), x -> x.setPoint(50, 1), 1);
      gives("the next place", pointsAt(50), x -> x.setPoint(51, 1), 2);
      int[][] orders = {{0, 1, 2, 3, 4}, {4, 3, 2, 1, 0}, {2, 0, 4, 1, 3}, {3, 1, 4, 0, 2}};
      for (int[] order : orders) {
        Consumer<ExamMarker> five = x -> {
          for (int i = 0; i < 5; i++) {
            int place = order[i];
            equal("points before the last", x.setPoint(10 * place, place % 2 == 0 ? 0 : 100), i + 1);
          }
        };
        for (int place = 0; place <= 50; place++) {
          int points = place;
          int due = points > 40 ? 0 : points / 10 % 2 == 0 ? points % 10 * 10 : 100 - points % 10 * 10;
          gives("ordered, at " + place, five, x -> x.curve(points), due);
        }
      }
    });
    test(16, "if there are 5 points already, and none at this place", () -> {
      gives("a fifth", pointsAt(10, 20, 30, 40), x -> x.setPoint(50, 1), 5);
      for (int i = 1; i <= 5; i++) {
        int place = 10 * i;
        Consumer<ExamMarker> five = pointsAt(10, 20, 30, 40, 50);
        gives("at place " + place, five, x -> x.setPoint(place, 99), 5);
        refuses("before place " + place, STATE, five, x -> x.setPoint(place - 1, 99));
        refuses("behind place " + place, STATE, five, x -> x.setPoint(place + 1, 99));
        gives("in place of " + place, five.andThen(x -> x.removePoint(place)), x -> x.setPoint(place + 1, 99), 5);
      }
    });
    test(16, PUBLISHED_ALREADY, () -> {
      Consumer<ExamMarker> published = pointsAt(50).andThen(PUBLISHED);
      refuses("a new one", UNSUPPORTED, published, x -> x.setPoint(51, 0));
      refuses("one that is there", UNSUPPORTED, published, x -> x.setPoint(50, 0));
      gives("withdrawn", published.andThen(ExamMarker::withdraw), x -> x.setPoint(51, 0), 2);
    });
  }

  private static void removedPoints() {
    test(17, "- `place`: the place", () -> {
      for (int i = 0; i < 5; i++) {
        int place = 10 * i + 10;
        gives("place " + place, pointsAt(10, 20, 30, 40, 50), x -> x.removePoint(place), 10 * i);
      }
    });
    test(17, PUBLISHED_ALREADY, () -> {
      Consumer<ExamMarker> published = pointsAt(50).andThen(PUBLISHED);
      refuses("published", UNSUPPORTED, published, x -> x.removePoint(50));
      gives("withdrawn", published.andThen(ExamMarker::withdraw), x -> x.removePoint(50), 0);
    });
    test(17, "if there is no point at this place", () -> {
      range(NONE, 0, 0, pointsAt(0), (x, n) -> x.removePoint(n), 0, 0);
      range(NONE, 200, 200, pointsAt(200), (x, n) -> x.removePoint(n), 0, 0);
      refuses("none at all", NONE, NOTHING, x -> x.removePoint(0));
      for (int i = 1; i <= 5; i++) {
        int place = 10 * i;
        Consumer<ExamMarker> five = pointsAt(10, 20, 30, 40, 50);
        refuses("before " + place, NONE, five, x -> x.removePoint(place - 1));
        refuses("behind " + place, NONE, five, x -> x.removePoint(place + 1));
        refuses(place + " again", NONE, five.andThen(x -> x.removePoint(place)), x -> x.removePoint(place));
        gives("the others than " + place, five.andThen(x -> x.removePoint(place)), x -> x.count(4), 4);
        for (int j = 1; j <= 5; j++) {
          int other = 10 * j;
          Object due = i == j ? NONE : Integer.valueOf(other - 10);
          gives(other + " without " + place, five.andThen(x -> x.removePoint(place)), x -> x.removePoint(other), due);
        }
      }
    });
  }

  /** What a candidate with a raw result of so many units has, of a full maximum of 100 points. */
  private static void scaled(String what, Consumer<ExamMarker> curve, int units, int due) {
    int points = units / 120;
    int rest = units % 120;
    gives(what, x -> {
      x.set(0, 0);
      // A correction of marker 1 makes the rest, which is a multiple of 24.
      deviate(x, 1, 0, 0, 0, 0, 0, -rest / 24);
      x.enter(1, 0, 0, Math.min(19, points));
      for (int question = 1; question < 5; question++) {
        int left = points - 19 - 20 * (question - 1);
        x.enter(0, 0, question, Math.max(0, Math.min(20, left)));
      }
      curve.accept(x);
    }, x -> x.result(0, 2), due);
  }

  private static void curves() {
    test(18, "- `points`: the raw result in points, 0 to 200", () -> {
      gives("the greatest", x -> maxima(x, 40, 40, 40, 40, 40), x -> x.curve(200), 100);
      gives("the least", x -> maxima(x, 40, 40, 40, 40, 40), x -> x.curve(0), 0);
    });
    test(18, "if the points are out of range or greater than the full maximum", () -> {
      range(ARGUMENT, 0, 100, NOTHING, (x, n) -> x.curve(n), 0, 100);
      range(ARGUMENT, 0, 5, x -> maxima(x, 1, 1, 1, 1, 1), (x, n) -> x.curve(n), 0, 100);
      range(ARGUMENT, 0, 200, x -> maxima(x, 40, 40, 40, 40, 40), (x, n) -> x.curve(n), 0, 100);
      range(ARGUMENT, 0, 100, scaledTo(30), (x, n) -> x.curve(n), 30, 30);
    });
    test(18, "With less than two points, the result of a candidate is 100 times the raw result, divided by the "
        + "full maximum.", () -> {
      Consumer<ExamMarker> eighty = x -> maxima(x, 40, 10, 10, 10, 10);
      gives("none", eighty, x -> x.curve(20), 25);
      gives("one at the place", eighty.andThen(pointsAt(20)), x -> x.curve(20), 25);
      gives("one below the place", eighty.andThen(x -> x.setPoint(40, 90)), x -> x.curve(20), 25);
      gives("two", eighty.andThen(pointsAt(20, 40)), x -> x.curve(20), 0);
      gives("one of two is left", eighty.andThen(pointsAt(20, 40)).andThen(x -> x.removePoint(40)),
          x -> x.curve(20), 25);
    });
    Consumer<ExamMarker> steep = x -> {
      x.setPoint(10, 10);
      x.setPoint(11, 90);
      x.setPoint(12, 40);
    };
    test(20, "In all that follows here, the raw result is taken in points, 120 units for a point.", () -> {
      scaled("60 of 100 points", NOTHING, 7200, 60);
      scaled("10.2 points", steep, 1224, 26);
    });
    test(18, "Otherwise it is the value of the first point if the raw result is at most its place", () -> {
      gives("a point before", steep, x -> x.curve(9), 10);
      gives("at the place", steep, x -> x.curve(10), 10);
      scaled("24 units before", steep, 1176, 10);
      scaled("24 units behind", steep, 1224, 26);
      gives("0, at place 0", x -> {
        x.setPoint(0, 3);
        x.setPoint(1, 99);
      }, x -> x.curve(0), 3);
    });
    test(18, "the value of the last point if it is at least the place of that", () -> {
      gives("at the place", steep, x -> x.curve(12), 40);
      gives("a point behind", steep, x -> x.curve(13), 40);
      scaled("24 units before", steep, 1416, 50);
      scaled("24 units behind", steep, 1464, 40);
      gives("the greatest", x -> {
        maxima(x, 40, 40, 40, 40, 40);
        x.setPoint(199, 3);
        x.setPoint(200, 99);
      }, x -> x.curve(200), 99);
    });
    test(18, "and between two neighboring points (x, y) and (u, v) it is y + (v - y) * (raw result - x) / (u - x), "
        + "all exactly.", () -> {
      gives("at the middle one", steep, x -> x.curve(11), 90);
      scaled("24 units before the middle one", steep, 1296, 74);
      scaled("24 units behind the middle one", steep, 1344, 80);
      gives("a third of the way", x -> {
        x.setPoint(0, 0);
        x.setPoint(3, 100);
      }, x -> x.curve(1), 33);
      gives("two thirds of the way down", x -> {
        x.setPoint(0, 100);
        x.setPoint(3, 0);
      }, x -> x.curve(2), 33);
    });
  }

  private static void rounding() {
    test(18, "rounded to the nearest whole number, and up if two are equally near", () -> {
      int[] due = {40, 40, 40, 41, 41, 41};
      for (int place = 0; place <= 5; place++) {
        int points = place;
        gives("fifths, " + place, x -> {
          x.setPoint(0, 40);
          x.setPoint(5, 41);
        }, x -> x.curve(points), due[place]);
      }
      Consumer<ExamMarker> rising = x -> {
        x.setPoint(0, 40);
        x.setPoint(10, 41);
      };
      scaled("half", rising, 600, 41);
      scaled("24 units less", rising, 576, 40);
      scaled("24 units more", rising, 624, 41);
      Consumer<ExamMarker> falling = x -> {
        x.setPoint(0, 41);
        x.setPoint(10, 40);
      };
      scaled("half, falling", falling, 600, 41);
      scaled("24 units less, falling", falling, 576, 41);
      scaled("24 units more, falling", falling, 624, 40);
      gives("half of 1 at a full maximum of 200", x -> maxima(x, 40, 40, 40, 40, 40), x -> x.curve(1), 1);
      gives("99.5 at a full maximum of 200", x -> maxima(x, 40, 40, 40, 40, 40), x -> x.curve(199), 100);
      gives("less than half of 1", x -> {
        maxima(x, 40, 40, 40, 40, 40);
        x.set(0, 0);
        deviate(x, 0, 0, 1, 0, 0, 0, 0);
        x.enter(0, 0, 0, 1);
      }, x -> x.result(0, 2), 0);
    });
  }

  // Promise 19

  private static void boundaries() {
    test(19, "- `grade`: the grade, 0 to 3", () ->
        gives("the last", x -> x.setBoundary(3, 1), x -> x.setBoundary(3, 2), 1));
    test(19, "if there is no such grade", () ->
        range(INDEX, 0, 3, x -> {
          x.setBoundary(0, 90);
          x.setBoundary(1, 80);
          x.setBoundary(2, 70);
        }, (x, n) -> x.setBoundary(n, 95 - 10 * n), 90, 40));
    test(19, "- `boundary`: the boundary", () ->
        gives("what was set", x -> x.setBoundary(1, 61), x -> x.setBoundary(1, 60), 61));
    test(19, "There are four boundaries from 1 to 100, each less than the one before it, at first 70, 60, 50 and "
        + "40.", () -> {
          int[] first = {70, 60, 50, 40};
          for (int i = 0; i < 4; i++) {
            int grade = i;
            gives("grade " + i, NOTHING, x -> x.setBoundary(grade, first[grade]), first[grade]);
          }
          Consumer<ExamMarker> least = x -> {
            for (int grade = 3; grade >= 0; grade--) {
              x.setBoundary(grade, 4 - grade);
            }
          };
          Consumer<ExamMarker> greatest = x -> {
            for (int grade = 0; grade < 4; grade++) {
              x.setBoundary(grade, 100 - grade);
            }
          };
          for (int i = 0; i < 4; i++) {
            int grade = i;
            gives("the least of " + i, least, x -> x.setBoundary(grade, 4 - grade), 4 - grade);
            gives("the greatest of " + i, greatest, x -> x.setBoundary(grade, 100 - grade), 100 - grade);
          }
        });
    test(19, "if the boundary is not from 1 to 100, or not less than the one before it and greater than the one "
        + "behind it", () -> {
          range(ARGUMENT, 61, 100, NOTHING, (x, n) -> x.setBoundary(0, n), 70, 70);
          range(ARGUMENT, 51, 69, NOTHING, (x, n) -> x.setBoundary(1, n), 60, 60);
          range(ARGUMENT, 41, 59, NOTHING, (x, n) -> x.setBoundary(2, n), 50, 50);
          range(ARGUMENT, 1, 49, NOTHING, (x, n) -> x.setBoundary(3, n), 40, 40);
          refuses("as the one before", ARGUMENT, NOTHING, x -> x.setBoundary(3, 50));
          refuses("as the one behind", ARGUMENT, NOTHING, x -> x.setBoundary(0, 60));
        });
    test(19, PUBLISHED_ALREADY, () -> {
      refuses("published", UNSUPPORTED, PUBLISHED, x -> x.setBoundary(0, 70));
      gives("withdrawn", withdrawn(), x -> x.setBoundary(0, 71), 70);
    });
  }

  // Promise 20

  private static void results() {
    Consumer<ExamMarker> ends = x -> {
      x.enter(0, 0, 0, 1);
      x.enter(0, 7, 4, 2);
    };
    test(20, "- `candidate`: the candidate", () -> gives("the last", ends, x -> x.result(7, 0), 240L));
    test(20, NO_CANDIDATE, () -> range(INDEX, 0, 7, ends, (x, n) -> x.result(n, 0), 120L, 240L));
    test(20, "if what is not from 0 to 5", () -> range(ARGUMENT, 0, 5, ends, (x, n) -> x.result(7, n), 240L, 0L));
    test(20, "- `what`: 0 for the numerator and 1 for the denominator of the raw result in units, in "
        + "lowest terms; 2 for the scaled mark; 3 for the plain grade; 4 for the grade; 5 for 1 if it is "
        + "lifted, otherwise 0", () -> {
      Consumer<ExamMarker> lifted = filled(14, 14, 14, 14, 12);
      long[] due = {8160, 1, 68, 1, 0, 1};
      for (int i = 0; i < 6; i++) {
        int what = i;
        gives("what " + i, lifted, x -> x.result(0, what), due[i]);
      }
    });
    test(20, NO_GRADE, () -> {
      for (int i = 0; i < 6; i++) {
        int what = i;
        refuses("what " + i, NONE, x -> x.enter(0, 1, 0, 20), x -> x.result(0, what));
      }
    });
    test(20, "A candidate has a grade if one of its scripts has an entry, valid or not, of an excused question or "
        + "not.", () -> {
          gives("no entry", x -> x.enter(0, 6, 4, 20), x -> x.result(7, 4), NONE);
          gives("an entry of the first question", x -> x.enter(0, 7, 0, 0), x -> x.result(7, 4), 4);
          gives("an entry of the last question", x -> x.enter(0, 7, 4, 0), x -> x.result(7, 4), 4);
          gives("one that is not valid", x -> {
            x.enter(0, 7, 4, 20);
            suspend(x, 0, 4);
          }, x -> x.result(7, 4), 4);
          gives("one of an excused question", x -> {
            x.enter(0, 7, 4, 20);
            x.excuse(7, 4, true);
          }, x -> x.result(7, 4), 4);
          gives("one of an excused question that is not valid", x -> {
            x.enter(0, 7, 4, 20);
            suspend(x, 0, 4);
            x.excuse(7, 4, true);
          }, x -> x.result(7, 4), 4);
          gives("the entry is taken back", x -> {
            x.enter(0, 7, 4, 20);
            x.undo();
          }, x -> x.result(7, 4), NONE);
        });
  }

  private static void raw(String what, Consumer<ExamMarker> setup, long numerator, long denominator) {
    gives(what + ": numerator", setup, x -> x.result(0, 0), numerator);
    gives(what + ": denominator", setup, x -> x.result(0, 1), denominator);
  }

  private static void rawResults() {
    test(20, "the sum of the settled marks of the questions that are not excused, times the full maximum, divided "
        + "by the sum of the maxima of these questions, times (100 + raise), divided by 100", () -> {
      Consumer<ExamMarker> marks = x -> {
        maxima(x, 10, 20, 30, 40, 7);
        fill(x, 0, 0, 1, 2, 3, 4, 5);
      };
      raw("none excused", marks, 1800, 1);
      raw("one excused", marks.andThen(excused(0, 4)), 1284, 1);
      raw("the first two excused", marks.andThen(excused(0, 0, 1)), 1440 * 107, 77);
      raw("the last two excused", marks.andThen(excused(0, 3, 4)), 1284, 1);
      raw("a raise of 1", marks.andThen(x -> x.raise(0, 1)), 1818, 1);
      raw("a raise of 10", marks.andThen(x -> x.raise(0, 10)), 1980, 1);
      raw("a raise of 7", marks.andThen(excused(0, 0)).andThen(x -> x.raise(0, 7)), 84 * 107 * 107, 97 * 5);
      raw("nothing", filled(0).andThen(x -> x.raise(0, 10)), 0, 1);
    });
    test(20, "but at most the full maximum times 120 units", () -> {
      Consumer<ExamMarker> raised = x -> {
        maxima(x, 30, 20, 20, 20, 20);
        x.raise(0, 10);
      };
      raw("at it", raised.andThen(filled(20, 20, 20, 20, 20)), 13200, 1);
      raw("a point more", raised.andThen(filled(21, 20, 20, 20, 20)), 13200, 1);
      raw("a point less", raised.andThen(filled(19, 20, 20, 20, 20)), 13068, 1);
      raw("all marks, no raise", filled(20, 20, 20, 20, 20), 12000, 1);
      raw("all marks, a raise of 1", filled(20, 20, 20, 20, 20).andThen(x -> x.raise(0, 1)), 12000, 1);
      raw("the greatest", x -> {
        maxima(x, 40, 40, 40, 40, 40);
        fill(x, 0, 0, 40, 40, 40, 40, 40);
        x.raise(0, 10);
      }, 24000, 1);
      raw("the least maxima", x -> {
        maxima(x, 1, 1, 1, 1, 1);
        fill(x, 0, 0, 1, 1, 1, 1, 1);
        x.raise(0, 1);
      }, 600, 1);
      raw("excused", raised.andThen(filled(0, 20, 20, 20, 20)).andThen(excused(0, 0, 1)), 13200, 1);
    });
  }

  private static void grades(String what, Consumer<ExamMarker> setup, int plain, int grade) {
    gives(what + ": plain grade", setup, x -> x.result(0, 3), plain);
    gives(what + ": grade", setup, x -> x.result(0, 4), grade);
    gives(what + ": lifted", setup, x -> x.result(0, 5), plain - grade);
  }

  private static void plainGrades() {
    test(20, "The plain grade is the first one whose boundary is not greater than the scaled mark, or 4.", () -> {
      int[] marks = {100, 71, 70, 69, 60, 59, 50, 49, 40, 39, 0};
      int[] due = {0, 0, 0, 1, 1, 2, 2, 3, 3, 4, 4};
      for (int i = 0; i < marks.length; i++) {
        grades("scaled mark " + marks[i], filled(0).andThen(scaledTo(marks[i])), due[i], due[i]);
      }
      Consumer<ExamMarker> close = x -> {
        for (int grade = 3; grade >= 0; grade--) {
          x.setBoundary(grade, 4 - grade);
        }
      };
      for (int scaled = 0; scaled <= 5; scaled++) {
        int grade = Math.max(0, 4 - scaled);
        Consumer<ExamMarker> setup = close.andThen(filled(0)).andThen(scaledTo(scaled));
        grades("boundaries 4, 3, 2, 1, mark " + scaled, setup, grade, grade);
      }
      grades("the boundary 100 at 100", filled(0).andThen(x -> x.setBoundary(0, 100)).andThen(scaledTo(100)), 0, 0);
      grades("the boundary 100 at 99", filled(0).andThen(x -> x.setBoundary(0, 100)).andThen(scaledTo(99)), 1, 1);
    });
    test(20, "The grades are 0, the best one, to 4.", () -> {
      grades("the best", filled(20, 20, 20, 20, 20), 0, 0);
      grades("the last", filled(0), 4, 4);
    });
  }

  private static void lifts() {
    Consumer<ExamMarker> good = filled(20, 20, 20, 20, 20);
    test(20, "the boundary b of grade g - 1 is greater than the scaled mark by at most the distance, which is from "
        + "0 to 5, at first 2", () -> {
      int[] boundary = {70, 60, 50, 40};
      for (int i = 0; i < 4; i++) {
        int b = boundary[i];
        grades("2 below " + b, good.andThen(scaledTo(b - 2)), i + 1, i);
        grades("3 below " + b, good.andThen(scaledTo(b - 3)), i + 1, i + 1);
        for (int distance = 0; distance <= 5; distance++) {
          int points = distance;
          Consumer<ExamMarker> set = good.andThen(x -> x.set(3, points));
          grades("at " + distance + " below " + b, set.andThen(scaledTo(b - distance)),
              distance == 0 ? i : i + 1, i);
          grades("beyond " + distance + " below " + b, set.andThen(scaledTo(b - distance - 1)), i + 1, i + 1);
        }
      }
    });
    test(20, "If the plain grade is g above 0", () -> {
      grades("grade 0", good.andThen(scaledTo(70)), 0, 0);
      grades("grade 1", good.andThen(scaledTo(69)), 1, 0);
      grades("grade 4", good.andThen(scaledTo(39)), 4, 3);
    });
    test(20, "then the grade is g - 1, and the candidate is lifted; otherwise the grade is the plain one", () -> {
      Consumer<ExamMarker> close = good.andThen(x -> {
        x.setBoundary(1, 69);
        x.setBoundary(2, 68);
        x.setBoundary(3, 67);
        x.set(3, 5);
      });
      grades("by one grade only", close.andThen(scaledTo(66)), 4, 3);
      grades("by one grade only, from 2", close.andThen(scaledTo(68)), 2, 1);
    });
  }

  private static void halfOfTheQuestions() {
    test(20, "for at least half of the questions that are not excused", () -> {
      Consumer<ExamMarker> near = scaledTo(69);
      grades("three of five", near.andThen(filled(14, 14, 14, 13, 13)), 1, 0);
      grades("two of five", near.andThen(filled(14, 14, 13, 13, 13)), 1, 1);
      grades("the last three of five", near.andThen(filled(13, 13, 14, 14, 14)), 1, 0);
      grades("two of four", near.andThen(filled(14, 14, 13, 13, 13)).andThen(excused(0, 4)), 1, 0);
      grades("one of four", near.andThen(filled(14, 13, 13, 13, 14)).andThen(excused(0, 4)), 1, 1);
      grades("two of three", near.andThen(filled(14, 14, 13, 0, 0)).andThen(excused(0, 3, 4)), 1, 0);
      grades("one of three", near.andThen(filled(14, 13, 13, 20, 20)).andThen(excused(0, 3, 4)), 1, 1);
      grades("none of five", near.andThen(filled(13, 13, 13, 13, 13)), 1, 1);
      grades("all of five", near.andThen(filled(14, 14, 14, 14, 14)), 1, 0);
      grades("three of five, two of them missing", near.andThen(filled(14, 14, 14)), 1, 0);
    });
  }

  private static void hundredthsOfTheMaximum() {
    test(20, "the settled mark is at least b hundredths of the maximum", () -> {
      Consumer<ExamMarker> exact = x -> {
        x.set(0, 0);
        flat(x, 69);
      };
      Consumer<ExamMarker> three = filled(14, 14, 14, 0, 0);
      grades("at 70 hundredths", exact.andThen(three), 1, 0);
      grades("24 units less", exact.andThen(x -> deviate(x, 0, 0, 1, 0, 0, 0, 0)).andThen(three), 1, 1);
      grades("24 units more", exact.andThen(x -> deviate(x, 0, 0, -1, 0, 0, 0, 0)).andThen(three), 1, 0);
      for (int boundary = 61; boundary <= 100; boundary++) {
        int b = boundary;
        Consumer<ExamMarker> near = x -> {
          x.setBoundary(0, b);
          flat(x, b - 1);
          maxima(x, 40, 40, 40, 40, 40);
        };
        int least = (b * 40 + 99) / 100;
        grades("least mark for " + b, near.andThen(filled(least, least, least, 0, 0)), 1, 0);
        grades("a point less for " + b, near.andThen(filled(least, least, least - 1, 0, 0)), 1, 1);
      }
      grades("two thirds for 66", x -> {
        maxima(x, 3, 3, 3, 3, 3);
        x.setBoundary(0, 66);
        flat(x, 65);
        fill(x, 0, 0, 2, 2, 2, 0, 0);
      }, 1, 0);
      grades("two thirds for 67", x -> {
        maxima(x, 3, 3, 3, 3, 3);
        x.setBoundary(0, 67);
        flat(x, 66);
        fill(x, 0, 0, 2, 2, 2, 0, 0);
      }, 1, 1);
    });
  }

  // Promise 21

  /** The recount of a script with these entries by markers 0, 1, 2, of which one may be suspended. */
  private static void recounted(String what, int tolerance, int suspended, int due, int... marks) {
    Consumer<ExamMarker> setup = x -> {
      x.set(2, 0);
      for (int marker = 0; marker < marks.length; marker++) {
        x.enter(marker, 0, 0, marks[marker]);
      }
      x.set(2, tolerance);
      if (suspended >= 0) {
        suspend(x, suspended, 0);
      }
    };
    gives(what, setup, x -> x.recount(0), due);
    gives(what + ", the settled mark", setup, x -> x.script(0, 0, 0), due);
    gives(what + ", again", setup.andThen(x -> x.recount(0)), x -> x.recount(0), due);
    gives(what + ", then of another candidate", setup.andThen(x -> x.recount(0)), x -> x.recount(1), 0);
    gives(what + ", of the second question too", setup.andThen(x -> x.enter(3, 0, 1, 1)), x -> x.recount(0), due + 120);
  }

  private static void recountedScripts() {
    test(21, "what it adds is corrected with each valid entry of it", () -> {
      recounted("none", 3, -1, 0);
      recounted("one", 3, -1, 2400, 20);
      recounted("one that is not valid", 3, 0, 0, 20);
      recounted("two at the tolerance", 3, -1, 1380, 10, 13);
      recounted("two at the tolerance, downwards", 3, -1, 1380, 13, 10);
      recounted("two beyond it", 3, -1, 1200, 10, 14);
      recounted("two beyond it, downwards", 3, -1, 1200, 14, 10);
      recounted("the first of two is not valid", 3, 0, 1680, 10, 14);
      recounted("the second of two is not valid", 3, 1, 1200, 10, 14);
      recounted("three, the first two at the tolerance", 3, -1, 1380, 10, 13, 13);
      recounted("three, the first two beyond it", 3, -1, 1680, 10, 14, 14);
      recounted("three, equally near", 3, -1, 1800, 0, 20, 10);
      recounted("three, equally near, the greater first", 3, -1, 1800, 20, 0, 10);
      recounted("three, nearer to the lesser", 3, -1, 540, 0, 20, 9);
      recounted("three, nearer to the greater", 3, -1, 1860, 0, 20, 11);
      recounted("three, the first is not valid, at the tolerance", 3, 0, 1380, 0, 10, 13);
      recounted("three, the first is not valid, beyond it", 3, 0, 1200, 0, 14, 10);
      recounted("three, the second is not valid, at the tolerance", 3, 1, 1380, 10, 0, 13);
      recounted("three, the third is not valid, beyond it", 3, 2, 1200, 14, 10, 14);
    });
  }

  private static void recounts() {
    Consumer<ExamMarker> ends = x -> {
      x.enter(0, 0, 0, 1);
      x.enter(0, 7, 4, 2);
    };
    test(21, "- `candidate`: the candidate", () -> gives("without entries", ends, x -> x.recount(1), 0));
    test(21, NO_CANDIDATE, () -> range(INDEX, 0, 7, ends, (x, n) -> x.recount(n), 120, 240));
    test(21, "all entries of all candidates are gone through in the order in which they were made", () -> {
      Consumer<ExamMarker> full = x -> {
        x.set(2, 0);
        for (int marker = 0; marker < 3; marker++) {
          for (int script = 39; script >= 0; script--) {
            x.enter(marker, script / 5, script % 5, marker == 1 ? 20 : 5 * marker);
          }
        }
      };
      for (int i = 0; i < 8; i++) {
        int candidate = i;
        gives("three entries for each script, candidate " + i, full, x -> x.recount(candidate), 5 * 1800);
      }
      gives("entries", full, x -> x.count(0), 120);
    });
    test(21, "for each script that is not excused, what it adds is corrected with each valid entry of it, then "
        + "with its remark", () -> {
      Consumer<ExamMarker> marks = filled(1, 2, 3, 4, 5);
      gives("none excused", marks, x -> x.recount(0), 1800);
      gives("the first excused", marks.andThen(excused(0, 0)), x -> x.recount(0), 1680);
      gives("the last two excused", marks.andThen(excused(0, 3, 4)), x -> x.recount(0), 720);
      gives("one that is not valid", marks.andThen(x -> suspend(x, 0, 4)), x -> x.recount(0), 1200);
      for (int i = 0; i < 5; i++) {
        int question = i;
        Consumer<ExamMarker> open = PUBLISHED.andThen(x -> x.appeal(0, question));
        Call recounted = x -> x.recount(0);
        gives("an open appeal, " + i, open, recounted, 6000);
        gives("a remark at the tolerance, " + i, open.andThen(x -> x.remark(1, 0, question, 13)), recounted, 6000);
        gives("one beyond it, " + i, open.andThen(x -> x.remark(1, 0, question, 14)), recounted, 6480);
      }
    });
  }

  // Promises 22 and 23

  private static void ranks(String what, Consumer<ExamMarker> setup, int... due) {
    for (int i = 0; i < due.length; i++) {
      int rank = i;
      gives(what + ", rank " + i, setup, x -> x.ranked(rank), due[i]);
    }
    gives(what + ", no such rank", setup, x -> x.ranked(due.length), NONE);
  }

  /** Candidate 1 has the first marks of 80 and an excused question, candidate 0 the second ones of 87, and raises. */
  private static Consumer<ExamMarker> fractions(int marks1, int raise1, int marks0, int raise0) {
    return x -> {
      maxima(x, 7, 20, 20, 20, 20);
      for (int question = 1; question < 5; question++) {
        x.enter(0, 1, question, (marks1 + question - 1) / 4);
        x.enter(0, 0, question, (marks0 + question - 1) / 4);
      }
      x.excuse(1, 0, true);
      x.raise(1, raise1);
      x.raise(0, raise0);
      flat(x, 50);
    };
  }

  private static void ranks() {
    test(22, "- `rank`: the rank, from 0", () -> gives("the first", TENS, x -> x.ranked(0), 0));
    test(22, "if there is no such rank", () -> {
      refuses("none", NONE, NOTHING, x -> x.ranked(0));
      refuses("none, -1", NONE, NOTHING, x -> x.ranked(-1));
      range(NONE, 0, 0, x -> x.enter(0, 7, 4, 0), (x, n) -> x.ranked(n), 7, 7);
      range(NONE, 0, 1, x -> {
        x.enter(0, 3, 4, 0);
        x.enter(0, 5, 0, 1);
      }, (x, n) -> x.ranked(n), 5, 3);
      range(NONE, 0, 7, x -> {
        for (int candidate = 0; candidate < 8; candidate++) {
          x.enter(0, candidate, 4, candidate);
        }
      }, (x, n) -> x.ranked(n), 7, 0);
    });
    test(22, "those with grades are ordered by descending scaled marks, those with equal ones by descending raw "
        + "results, those still equal by ascending numbers", () -> {
      Consumer<ExamMarker> all = x -> {
        for (int candidate = 0; candidate < 8; candidate++) {
          x.enter(0, candidate, 0, 10);
        }
      };
      ranks("all equal", all, 0, 1, 2, 3, 4, 5, 6, 7);
      ranks("one raised by a percent, the same scaled mark", all.andThen(x -> x.raise(4, 1)), 4, 0, 1, 2, 3, 5, 6, 7);
      ranks("a falling curve", all.andThen(x -> {
        x.enter(0, 4, 1, 1);
        x.setPoint(0, 100);
        x.setPoint(100, 0);
      }), 0, 1, 2, 3, 5, 6, 7, 4);
      ranks("equal raw results of different marks", x -> {
        fill(x, 0, 6, 10, 10, 10, 10, 10);
        fill(x, 0, 5, 10, 10, 10);
        fill(x, 0, 2, 15, 5, 10);
        excused(5, 3, 4).accept(x);
        excused(2, 3, 4).accept(x);
      }, 2, 5, 6);
      // 41 * 120 * 87 / 80 * 109 / 100 is 5832.045, and 45 * 120 * 108 / 100 is 5832.
      ranks("a fraction of a unit more", x -> {
        maxima(x, 7, 20, 20, 20, 20);
        fill(x, 0, 0, 5, 10, 10, 10, 10);
        x.raise(0, 8);
        fill(x, 0, 1, 0, 10, 10, 10, 11);
        x.excuse(1, 0, true);
        x.raise(1, 9);
        flat(x, 50);
      }, 1, 0);
      ranks("a fraction of a unit more than another fraction", fractions(39, 2, 42, 3), 1, 0);
      ranks("a fraction of a unit less than another fraction", fractions(33, 8, 38, 2), 0, 1);
      ranks("a fraction of a unit less, with a greater denominator", fractions(37, 9, 43, 2), 0, 1);
      ranks("equal fractions", x -> {
        for (int candidate = 5; candidate >= 3; candidate--) {
          x.enter(0, candidate, 1, 7);
          x.enter(0, candidate, 2, candidate);
          x.enter(0, candidate, 3, 5 - candidate);
          x.excuse(candidate, 0, true);
          x.raise(candidate, 7);
        }
        x.setMaximum(0, 7);
        x.setMaximum(4, 37);
      }, 3, 4, 5);
    });
  }

  private static void numbersOfGrades() {
    test(23, "- `grade`: the grade, 0 to 4", () -> {
      gives("the best", filled(20, 20, 20, 20, 20), x -> x.graded(0), 1);
      gives("the last", filled(0), x -> x.graded(4), 1);
    });
    test(23, "if there is no such grade", () -> {
      range(INDEX, 0, 4, x -> {
        fill(x, 0, 0, 20, 20, 20, 20, 20);
        x.enter(0, 1, 0, 0);
        x.enter(0, 2, 0, 0);
      }, (x, n) -> x.graded(n), 1, 2);
      range(INDEX, 0, 4, NOTHING, (x, n) -> x.graded(n), 0, 0);
    });
    test(23, "Returns the number of candidates with a grade.", () -> {
      for (int size = 0; size <= 8; size++) {
        int candidates = size;
        gives(size + " candidates", x -> {
          for (int candidate = 0; candidate < candidates; candidate++) {
            x.enter(0, candidate, 0, 0);
          }
        }, x -> x.graded(4), size);
      }
    });
  }

  // Promises 24 and 25

  private static void supposedGrades() {
    Consumer<ExamMarker> ends = x -> {
      fill(x, 0, 0, 10, 10, 10, 10, 10);
      fill(x, 0, 7, 0, 0, 0, 0, 20);
    };
    test(24, "- `candidate`: the candidate", () -> gives("the last", ends, x -> x.gradeIf(7, 0, 20), 3));
    test(24, "- `question`: the question", () -> gives("the last", ends, x -> x.gradeIf(7, 4, 0), 4));
    test(24, "if there is no such candidate or question", () -> {
      range(INDEX, 0, 7, ends, (x, n) -> x.gradeIf(n, 0, 20), 1, 3);
      range(INDEX, 0, 4, ends, (x, n) -> x.gradeIf(0, n, 20), 1, 1);
    });
    test(24, "- `mark`: the mark in points, 0 to the maximum", () -> {
      gives("none", ends, x -> x.gradeIf(0, 0, 0), 3);
      gives("all", ends, x -> x.gradeIf(0, 0, 20), 1);
    });
    test(24, "if the mark is out of range", () -> {
      range(ARGUMENT, 0, 20, ends, (x, n) -> x.gradeIf(0, 0, n), 3, 1);
      range(ARGUMENT, 0, 40, ends.andThen(x -> x.setMaximum(4, 40)), (x, n) -> x.gradeIf(0, 4, n), 4, 1);
      range(ARGUMENT, 0, 20, ends.andThen(excused(0, 0)), (x, n) -> x.gradeIf(0, 0, n), 2, 2);
      range(ARGUMENT, 0, 1, x -> {
        x.setMaximum(3, 1);
        x.enter(0, 0, 3, 1);
      }, (x, n) -> x.gradeIf(0, 3, n), 4, 4);
    });
    test(24, NO_GRADE, () ->
        refuses("no grade", NONE, x -> x.enter(0, 1, 0, 1), x -> x.gradeIf(0, 0, 0)));
    test(24, "for an excused question, the present grade", () -> {
      gives("excused", ends.andThen(excused(7, 4)), x -> x.gradeIf(7, 4, 20), 4);
      gives("not excused", ends, x -> x.gradeIf(7, 4, 20), 4);
      gives("excused, nothing", ends.andThen(excused(0, 2)), x -> x.gradeIf(0, 2, 0), 2);
      gives("not excused, nothing", ends, x -> x.gradeIf(0, 2, 0), 3);
    });
  }

  private static void neededMarks() {
    Consumer<ExamMarker> ends = x -> {
      fill(x, 0, 0, 10, 10, 10, 10, 10);
      fill(x, 0, 7, 0, 0, 0, 0, 20);
    };
    test(25, "- `candidate`: the candidate", () -> gives("the last", ends, x -> x.needed(7, 0, 3), 20));
    test(25, "- `question`: the question", () -> gives("the last", ends, x -> x.needed(0, 4, 2), 8));
    test(25, "- `grade`: the grade, 0 to 4", () -> gives("the last", ends, x -> x.needed(0, 4, 4), 0));
    test(25, "if there is no such candidate, question or grade", () -> {
      range(INDEX, 0, 7, ends, (x, n) -> x.needed(n, 0, 3), 0, 20);
      range(INDEX, 0, 4, ends, (x, n) -> x.needed(0, n, 2), 8, 8);
      range(INDEX, 0, 4, x -> fill(x, 0, 0, 20, 20, 20, 20, 20), (x, n) -> x.needed(0, 0, n), 0, 0);
    });
    test(25, "if the candidate has no grade, or the maximum is not sufficient", () -> {
      for (int i = 0; i < 5; i++) {
        int grade = i;
        refuses("no grade, " + i, NONE, x -> x.enter(0, 1, 0, 1), x -> x.needed(0, 0, grade));
      }
      // 48 points, and a mark: 68 points are lifted to the first grade.
      Consumer<ExamMarker> enough = filled(0, 14, 14, 14, 6);
      gives("the maximum is just sufficient", enough, x -> x.needed(0, 0, 0), 20);
      refuses("a point too little", NONE, filled(0, 14, 14, 13, 6), x -> x.needed(0, 0, 0));
      gives("an excused one", ends.andThen(excused(0, 2)), x -> x.needed(0, 2, 2), 0);
      refuses("an excused one is not sufficient", NONE, ends.andThen(excused(0, 2)), x -> x.needed(0, 2, 1));
    });
    test(25, "Returns the least mark of a script, in points, with which a candidate would have a grade at least as "
        + "good, whatever it would be with greater ones", () -> {
      for (int i = 0; i <= 20; i++) {
        int mark = i;
        Consumer<ExamMarker> setup = x -> {
          fill(x, 0, 0, 0, 20);
          x.set(3, 0);
          x.setPoint(20 + mark, 70);
          x.setPoint(21 + mark, 0);
          if (mark > 0) {
            x.setPoint(19 + mark, 69);
          }
        };
        gives("just " + i, setup, x -> x.needed(0, 0, 0), i);
        gives("a worse grade is enough, " + i, setup, x -> x.needed(0, 0, 1), 0);
        if (i < 20) {
          gives("a greater mark than " + i, setup, x -> x.gradeIf(0, 0, mark + 1), 4);
        }
      }
      gives("by a lift", filled(0, 12, 12, 12, 12), x -> x.needed(0, 0, 1), 10);
    });
    test(25, "for an excused question, 0 if the present grade is at least as good", () -> {
      gives("as good", ends.andThen(excused(0, 0)), x -> x.needed(0, 0, 2), 0);
      gives("better", ends.andThen(excused(0, 0)), x -> x.needed(0, 0, 3), 0);
      refuses("worse", NONE, ends.andThen(excused(0, 0)), x -> x.needed(0, 0, 1));
    });
  }

  // Promises 26 and 27

  private static void means() {
    Consumer<ExamMarker> ends = x -> {
      x.enter(0, 0, 0, 1);
      x.enter(0, 0, 4, 2);
    };
    long two = Double.doubleToLongBits(2.0);
    test(26, "- `question`: the question", () ->
        gives("the last", ends, x -> x.meanBits(4), two));
    test(26, "if there is no such question", () ->
        range(INDEX, 0, 4, ends, (x, n) -> x.meanBits(n), Double.doubleToLongBits(1.0), two));
    test(26, "if there are no such candidates", () -> {
      refuses("none", ARITHMETIC, NOTHING, x -> x.meanBits(0));
      refuses("the only one is excused", ARITHMETIC, ends.andThen(excused(0, 4)), x -> x.meanBits(4));
      gives("another question is excused", ends.andThen(excused(0, 0)), x -> x.meanBits(4), two);
      Consumer<ExamMarker> both = ends.andThen(x -> x.enter(0, 7, 0, 0));
      gives("one of two is excused", both.andThen(excused(0, 4)), x -> x.meanBits(4), 0L);
    });
    test(26, "Returns the mean of the settled marks of a question over all candidates with a grade for whom it is "
        + "not excused", () -> {
      for (int size = 1; size <= 8; size++) {
        int candidates = size;
        gives("the greatest of " + size, x -> {
          x.setMaximum(2, 40);
          for (int candidate = 0; candidate < candidates; candidate++) {
            x.enter(0, candidate, 2, 40);
          }
        }, x -> x.meanBits(2), Double.doubleToLongBits(40.0));
        gives("one point of " + size, x -> {
          for (int candidate = 0; candidate < candidates; candidate++) {
            x.enter(0, candidate, 2, candidate == 0 ? 1 : 0);
          }
        }, x -> x.meanBits(2), Double.doubleToLongBits(120.0 / 120.0 / size));
        gives("24 units of " + size, x -> {
          x.set(0, 0);
          deviate(x, 0, 2, -1, 0, 0, 0, 0);
          x.enter(0, 0, 2, 0);
          for (int candidate = 1; candidate < candidates; candidate++) {
            x.enter(1, candidate, 2, 0);
          }
        }, x -> x.meanBits(2), Double.doubleToLongBits(24.0 / 120.0 / size));
        gives("nothing of " + size, x -> {
          for (int candidate = 0; candidate < candidates; candidate++) {
            x.enter(0, candidate, 3, 20);
          }
        }, x -> x.meanBits(2), 0L);
      }
    });
  }

  private static void shares() {
    Consumer<ExamMarker> ends = x -> {
      x.enter(0, 0, 0, 1);
      x.enter(3, 7, 4, 1);
      suspend(x, 3, 4);
    };
    test(27, "- `marker`: the marker", () ->
        gives("another one is suspended", ends, x -> x.validBits(0), Float.floatToIntBits(1.0f)));
    test(27, "if there is no such marker", () ->
        range(INDEX, 0, 3, ends, (x, n) -> x.validBits(n), Float.floatToIntBits(1.0f), 0));
    test(27, "if it has no entries", () -> {
      refuses("none", ARITHMETIC, NOTHING, x -> x.validBits(0));
      refuses("those of other markers", ARITHMETIC, ends, x -> x.validBits(1));
      gives("one that is not valid", ends, x -> x.validBits(3), 0);
    });
    test(27, "their number divided by the number of all of its entries, both converted to float", () -> {
      for (int i = 0; i <= 40; i += 8) {
        int invalid = i;
        for (int j = i == 0 ? 1 : 0; i + j <= 40; j += i == 0 ? 1 : 8) {
          int valid = j;
          gives(valid + " of " + (valid + invalid), x -> {
            for (int script = 0; script < valid + invalid; script++) {
              int question = script / 8;
              x.enter(2, script % 8, question, 1);
            }
            for (int question = 0; question < invalid / 8; question++) {
              suspend(x, 2, question);
            }
          }, x -> x.validBits(2), Float.floatToIntBits((float) valid / (float) (valid + invalid)));
        }
      }
    });
  }
}
