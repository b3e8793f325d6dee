import java.util.Arrays;
import java.util.function.Consumer;

/** Boundaries of numbers, questions and seeds: promises 1 to 7. */
final class SeedBoundaries extends Boundary {
  private static final String PUBLISHED_ALREADY = "if the results are published";

  private SeedBoundaries() {
  }

  static void run() {
    numbers();
    maxima();
    maximaAndMarks();
    settings();
    seeds();
    marksOfSeeds();
    corrections();
    suspensions();
  }

  private static void numbers() {
    test(1, "There are 8 candidates, 5 questions and 4 markers, numbered from 0.", () -> {
      range(INDEX, 0, 3, NOTHING, (x, n) -> x.enter(n, 0, 0, 1), 1, 1);
      range(INDEX, 0, 7, NOTHING, (x, n) -> x.enter(0, n, 0, 1), 1, 1);
      range(INDEX, 0, 4, NOTHING, (x, n) -> x.enter(0, 0, n, 1), 1, 1);
    });
    test(1, "An object is used for at most 512 calls after it has been made", () -> {
      ExamMarker x = new ExamMarker();
      for (int call = 1; call <= 508; call++) {
        equal("call " + call, x.raise(call % 8, call % 11), call <= 8 ? 0 : (call - 8) % 11);
      }
      for (int left = 5; left >= 3; left--) {
        equal("undo", x.undo(), left);
      }
      equal("the last call", x.raise(505 % 8, 0), 505 % 11);
    });
    test(1, "Creates a marker without entries.", () -> {
      ExamMarker x = new ExamMarker();
      for (int script = 0; script < 40; script++) {
        equal("entries of script " + script, x.script(script / 5, script % 5, 1), 0);
      }
      equal("entries", x.count(0), 0);
      equal("candidates with a grade", x.count(1), 0);
    });
    test(1, "A mark is a whole number of points.", () -> {
      ExamMarker x = made(TENS);
      equal("mark", x.entry(0, 4, 0, 1), 10);
      equal("settled mark", x.script(0, 4, 0), 1200);
    });
    test(6, "a number of units is always a whole number", () -> {
      int[] due = {-240, -180, -160, -150, -144};
      for (int n = 1; n <= 5; n++) {
        int[] deviations = {2, 1, 1, 1, 1};
        int[] some = Arrays.copyOf(deviations, n);
        Consumer<ExamMarker> setup = x -> deviate(x, 0, 0, some);
        gives(n + " seeds", setup, x -> x.correction(0, 0), due[n - 1]);
      }
      gives("half of 2184 and 2130", x -> {
        x.set(0, 0);
        deviate(x, 0, 0, -1, 0, 0, 0, 0);
        for (int seed = 1; seed < 5; seed++) {
          x.markSeed(1, 0, seed, seed == 1 ? 1 : 0);
        }
        x.enter(0, 0, 0, 18);
        x.enter(1, 0, 0, 18);
      }, x -> x.script(0, 0, 0), (18 * 120 + 24 + 18 * 120 - 30) / 2);
    });
  }

  private static void maxima() {
    test(2, "- `question`: the question", () ->
        equal("the last question alone", made(x -> x.setMaximum(4, 40)).count(6), 120));
    test(2, "if there is no such question", () ->
        range(INDEX, 0, 4, NOTHING, (x, n) -> x.setMaximum(n, 21), 20, 20));
    test(2, "if the maximum is out of range", () ->
        range(ARGUMENT, 1, 40, NOTHING, (x, n) -> x.setMaximum(0, n), 20, 20));
    test(2, "- `maximum`: the maximum, 1 to 40", () -> {
      gives("a mark of 1 at a maximum of 1", x -> x.setMaximum(4, 1), x -> x.enter(0, 0, 4, 1), 1);
      gives("a mark of 40 at a maximum of 40", x -> x.setMaximum(4, 40), x -> x.enter(0, 0, 4, 40), 1);
    });
    test(2, "A question has a maximum from 1 to 40 points, at first 20.", () -> {
      for (int i = 0; i < 5; i++) {
        int question = i;
        gives("first of " + i, NOTHING, x -> x.setMaximum(question, 40), 20);
        gives("20 of " + i, NOTHING, x -> x.enter(0, 0, question, 20), 1);
        reports("21 of " + i, NOTHING, x -> x.enter(0, 0, question, 21), 1, 0, 12, 20);
      }
    });
    test(2, "The full maximum is the sum of all five.", () -> {
      gives("at first", NOTHING, x -> x.count(6), 100);
      gives("least", x -> maxima(x, 1, 1, 1, 1, 1), x -> x.count(6), 5);
      gives("greatest", x -> maxima(x, 40, 40, 40, 40, 40), x -> x.count(6), 200);
      for (int i = 0; i < 5; i++) {
        int question = i;
        gives("question " + i, x -> x.setMaximum(question, 21), x -> x.count(6), 101);
      }
    });
    test(2, PUBLISHED_ALREADY, () -> {
      refuses("published", UNSUPPORTED, PUBLISHED, x -> x.setMaximum(0, 20));
      gives("not published yet", TENS, x -> x.setMaximum(0, 21), 20);
      gives("withdrawn", PUBLISHED.andThen(ExamMarker::withdraw), x -> x.setMaximum(0, 21), 20);
    });
  }

  private static void holdsMaximum(String what, int question, Consumer<ExamMarker> setup) {
    gives(what + ", as great", setup, x -> x.setMaximum(question, 15), 20);
    refuses(what + ", greater", STATE, setup, x -> x.setMaximum(question, 14));
    gives(what + ", another question", setup, x -> x.setMaximum(question == 2 ? 1 : 2, 14), 20);
  }

  private static void maximaAndMarks() {
    test(2, "if an entry or the definitive mark or a mark of a seed of this question would be greater than "
        + "it", () -> {
      holdsMaximum("the first entry of all scripts", 0, x -> x.enter(0, 0, 0, 15));
      holdsMaximum("an entry of the last script", 4, x -> x.enter(3, 7, 4, 15));
      holdsMaximum("a second entry", 1, x -> {
        x.enter(0, 3, 1, 0);
        x.enter(1, 3, 1, 15);
      });
      holdsMaximum("a third entry", 1, x -> {
        x.enter(0, 3, 1, 0);
        x.enter(1, 3, 1, 9);
        x.enter(2, 3, 1, 15);
      });
      holdsMaximum("an entry of a suspended marker", 3, x -> {
        suspend(x, 2, 3);
        x.enter(2, 7, 3, 15);
      });
      for (int seed = 0; seed < 5; seed++) {
        int great = seed;
        holdsMaximum("definitive mark of seed " + seed, 4, x -> {
          for (int i = 0; i < 5; i++) {
            x.addSeed(4, i == great ? 15 : 3);
          }
        });
        holdsMaximum("mark of seed " + seed, 0, x -> {
          for (int i = 0; i < 5; i++) {
            x.addSeed(0, 3);
            x.markSeed(3, 0, i, i == great ? 15 : 3);
          }
        });
      }
      holdsMaximum("a mark of a seed by marker 0", 4, x -> {
        x.addSeed(4, 0);
        x.markSeed(0, 4, 0, 15);
      });
      gives("marks of 1", x -> {
        deviate(x, 0, 0, 1);
        x.enter(0, 0, 0, 1);
      }, x -> x.setMaximum(0, 1), 20);
    });
  }

  private static void setting(String sentence, int what, int least, int greatest, int first) {
    test(3, sentence, () -> {
      range(ARGUMENT, least, greatest, NOTHING, (x, n) -> x.set(what, n), first, first);
      gives("the least is kept", x -> x.set(what, least), x -> x.set(what, greatest), least);
      gives("the greatest is kept", x -> x.set(what, greatest), x -> x.set(what, least), greatest);
    });
  }

  private static void settings() {
    setting("the band, which is from 0 to 5, at first 1", 0, 0, 5, 1);
    setting("the limit, which is from 1 to 40, at first 6", 1, 1, 40, 6);
    setting("the tolerance, which is from 0 to 10 points, at first 3", 2, 0, 10, 3);
    setting("the distance, which is from 0 to 5, at first 2", 3, 0, 5, 2);
    setting("the fee, from 0 to 99 and at first 30", 4, 0, 99, 30);
    test(3, "if what is not from 0 to 4", () ->
        range(INDEX, 0, 4, NOTHING, (x, n) -> x.set(n, 1), 1, 30));
    test(3, "- `what`: 0 for the band, 1 for the limit, 2 for the tolerance, 3 for the distance, 4 for the "
        + "fee", () -> {
      int[] first = {1, 6, 3, 2, 30};
      for (int i = 0; i < 5; i++) {
        int what = i;
        gives("setting " + i, NOTHING, x -> x.set(what, first[what]), first[what]);
      }
    });
    test(3, "if the value is out of range", () -> {
      int[] least = {0, 1, 0, 0, 0};
      int[] greatest = {5, 40, 10, 5, 99};
      for (int i = 0; i < 5; i++) {
        int what = i;
        refuses("below " + i, ARGUMENT, TENS, x -> x.set(what, least[what] - 1));
        refuses("above " + i, ARGUMENT, TENS, x -> x.set(what, greatest[what] + 1));
      }
    });
    test(3, "- `value`: the value", () ->
        gives("what was set", x -> x.set(4, 98), x -> x.set(4, 0), 98));
    test(3, "if the results are published and what is not 4", () -> {
      for (int i = 0; i < 4; i++) {
        int what = i;
        refuses("setting " + i, UNSUPPORTED, PUBLISHED, x -> x.set(what, 1));
        gives("setting " + i + " before", TENS, x -> x.set(what, 1), new int[] {1, 6, 3, 2}[i]);
      }
      gives("the fee", PUBLISHED, x -> x.set(4, 1), 30);
      range(ARGUMENT, 0, 99, PUBLISHED, (x, n) -> x.set(4, n), 30, 30);
    });
  }

  private static Consumer<ExamMarker> seeded(int question, int seeds) {
    return x -> {
      for (int seed = 0; seed < seeds; seed++) {
        x.addSeed(question, 10);
      }
    };
  }

  private static void seeds() {
    test(4, "- `question`: the question", () ->
        gives("a seed of the last question", x -> x.addSeed(4, 1), x -> x.markSeed(0, 4, 0, 1), 0));
    test(4, "if there is no such question", () ->
        range(INDEX, 0, 4, NOTHING, (x, n) -> x.addSeed(n, 0), 0, 0));
    test(4, "if the mark is not from 0 to the maximum", () -> {
      range(ARGUMENT, 0, 20, NOTHING, (x, n) -> x.addSeed(0, n), 0, 0);
      range(ARGUMENT, 0, 1, x -> x.setMaximum(3, 1), (x, n) -> x.addSeed(3, n), 0, 0);
      range(ARGUMENT, 0, 40, x -> x.setMaximum(4, 40), (x, n) -> x.addSeed(4, n), 0, 0);
    });
    test(4, "- `mark`: its definitive mark", () ->
        gives("deviation from it", x -> x.addSeed(0, 20), x -> x.markSeed(0, 0, 0, 0), -20));
    test(4, "A question has at most 5 seeds, numbered from 0, each with a definitive mark from 0 to the "
        + "maximum.", () -> {
      for (int size = 0; size < 5; size++) {
        gives("number " + size, seeded(4, size), x -> x.addSeed(4, 0), size);
      }
      gives("full in all questions", seeded(0, 5).andThen(seeded(1, 5)).andThen(seeded(2, 5))
          .andThen(seeded(3, 5)).andThen(seeded(4, 5)), x -> x.count(2), 25);
    });
    test(4, "if the question has 5 seeds", () -> {
      for (int i = 0; i < 5; i++) {
        int question = i;
        gives("the fifth of " + i, seeded(i, 4), x -> x.addSeed(question, 0), 4);
        refuses("a sixth of " + i, STATE, seeded(i, 5), x -> x.addSeed(question, 0));
        gives("of another one than " + i, seeded(i, 5), x -> x.addSeed((question + 1) % 5, 0), 0);
      }
    });
    test(4, PUBLISHED_ALREADY, () -> {
      refuses("published", UNSUPPORTED, PUBLISHED, x -> x.addSeed(0, 0));
      gives("withdrawn", PUBLISHED.andThen(ExamMarker::withdraw), x -> x.addSeed(0, 0), 0);
    });
  }

  private static void marksOfSeeds() {
    Consumer<ExamMarker> one = x -> {
      for (int question = 0; question < 5; question++) {
        x.addSeed(question, 10);
      }
    };
    test(5, "- `marker`: the marker", () ->
        gives("pay of the last", one.andThen(x -> x.markSeed(3, 0, 0, 1)), x -> x.account(3), 30));
    test(5, "- `question`: the question", () ->
        gives("the last", one.andThen(x -> x.markSeed(0, 4, 0, 20)), x -> x.isSuspended(0, 4), true));
    test(5, "- `seed`: the seed", () ->
        gives("the last", x -> {
          for (int seed = 0; seed < 5; seed++) {
            x.addSeed(0, 3 * seed);
          }
        }, x -> x.markSeed(0, 0, 4, 20), 8));
    test(5, "- `mark`: the mark", () ->
        gives("the deviation of 11", one, x -> x.markSeed(0, 0, 0, 11), 1));
    test(5, "if there is no such marker, question or seed", () -> {
      range(INDEX, 0, 3, one, (x, n) -> x.markSeed(n, 0, 0, 10), 0, 0);
      range(INDEX, 0, 4, one, (x, n) -> x.markSeed(0, n, 0, 10), 0, 0);
      for (int size = 1; size <= 5; size++) {
        range(INDEX, 0, size - 1, seeded(3, size), (x, n) -> x.markSeed(0, 3, n, 10), 0, 0);
      }
      refuses("without seeds", INDEX, seeded(3, 5), x -> x.markSeed(0, 2, 0, 10));
    });
    test(5, "if the mark is not from 0 to the maximum", () -> {
      range(ARGUMENT, 0, 20, one, (x, n) -> x.markSeed(0, 0, 0, n), -10, 10);
      Consumer<ExamMarker> small = x -> {
        x.setMaximum(2, 1);
        x.addSeed(2, 1);
      };
      range(ARGUMENT, 0, 1, small, (x, n) -> x.markSeed(0, 2, 0, n), -1, 0);
    });
    test(5, PUBLISHED_ALREADY, () -> {
      Consumer<ExamMarker> published = one.andThen(PUBLISHED);
      refuses("published", UNSUPPORTED, published, x -> x.markSeed(0, 0, 0, 10));
      gives("withdrawn", published.andThen(ExamMarker::withdraw), x -> x.markSeed(0, 0, 0, 10), 0);
    });
    test(5, "if the marker marked this seed already", () -> {
      for (int i = 0; i < 5; i++) {
        int seed = i;
        Consumer<ExamMarker> marked = seeded(4, 5).andThen(x -> x.markSeed(3, 4, seed, 0));
        refuses("seed " + i + " again", STATE, marked, x -> x.markSeed(3, 4, seed, 1));
        gives("another seed than " + i, marked, x -> x.markSeed(3, 4, (seed + 1) % 5, 1), -9);
        gives("another marker of " + i, marked, x -> x.markSeed(2, 4, seed, 1), -9);
      }
    });
    test(5, "A marker can mark a seed once; the deviation is this mark minus the definitive one.", () -> {
      Consumer<ExamMarker> great = x -> {
        x.setMaximum(0, 40);
        x.addSeed(0, 0);
        x.addSeed(0, 40);
      };
      gives("greatest", great, x -> x.markSeed(0, 0, 0, 40), 40);
      gives("least", great, x -> x.markSeed(0, 0, 1, 0), -40);
      gives("none", great, x -> x.markSeed(0, 0, 1, 40), 0);
    });
  }

  /** Deviations of n seeds whose sum is given, each of them nearly the same. */
  private static int[] deviations(int n, int sum) {
    int[] deviations = new int[n];
    for (int i = 0; i < n; i++) {
      deviations[i] = sum / n + (i < Math.abs(sum % n) ? Integer.signum(sum) : 0);
    }
    return deviations;
  }

  private static void corrected(int band, int n, int sum, int due) {
    gives("band " + band + ", " + n + " seeds, sum " + sum, x -> {
      x.set(0, band);
      deviate(x, 2, 3, deviations(n, sum));
    }, x -> x.correction(2, 3), due);
  }

  private static void corrections() {
    test(6, "- `marker`: the marker", () ->
        gives("another one", x -> deviate(x, 2, 4, 4), x -> x.correction(3, 4), 0));
    test(6, "- `question`: the question", () ->
        gives("another one", x -> deviate(x, 3, 3, 4), x -> x.correction(3, 4), 0));
    test(6, "if there is no such marker or question", () -> {
      Consumer<ExamMarker> ends = x -> {
        deviate(x, 0, 0, 2);
        deviate(x, 3, 0, -2);
        deviate(x, 0, 4, -3);
      };
      range(INDEX, 0, 3, ends, (x, n) -> x.correction(n, 0), -240, 240);
      range(INDEX, 0, 4, ends, (x, n) -> x.correction(0, n), -240, 360);
    });
    test(6, "if there are none, or the amount of the sum is at most n times the band", () -> {
      gives("no seeds", NOTHING, x -> x.correction(0, 0), 0);
      gives("no seed that it marked", seeded(0, 5), x -> x.correction(0, 0), 0);
      for (int band = 0; band <= 5; band++) {
        for (int n = 1; n <= 5; n++) {
          int least = n * band + 1;
          for (int sum = 2 - least; sum < least - 1; sum++) {
            corrected(band, n, sum, 0);
          }
          corrected(band, n, least - 1, 0);
          corrected(band, n, 1 - least, 0);
          corrected(band, n, least, -least * (120 / n));
          corrected(band, n, -least, least * (120 / n));
        }
      }
    });
    test(6, "the n seeds of the question that it marked", () ->
        gives("one of five", seeded(0, 5).andThen(x -> x.markSeed(1, 0, 4, 12)),
            x -> x.correction(1, 0), -240));
    test(6, "otherwise it is minus the sum times 120 / n units", () -> {
      Consumer<ExamMarker> great = x -> x.setMaximum(0, 40);
      gives("least", great.andThen(x -> deviate(x, 0, 0, 40, 40, 40, 40, 40)),
          x -> x.correction(0, 0), -4800);
      gives("greatest", great.andThen(x -> deviate(x, 0, 0, -40, -40, -40, -40, -40)),
          x -> x.correction(0, 0), 4800);
      gives("deviations that cancel", great.andThen(x -> deviate(x, 0, 0, 40, -40)),
          x -> x.correction(0, 0), 0);
    });
  }

  private static void suspended(int limit, int deviation, boolean due) {
    gives("limit " + limit + ", deviation " + deviation, x -> {
      x.setMaximum(4, 40);
      x.set(1, limit);
      deviate(x, 3, 4, deviation);
    }, x -> x.isSuspended(3, 4), due);
  }

  private static void suspensions() {
    test(7, "- `marker`: the marker", () ->
        gives("another one", x -> suspend(x, 2, 4), x -> x.isSuspended(3, 4), false));
    test(7, "- `question`: the question", () ->
        gives("another one", x -> suspend(x, 3, 3), x -> x.isSuspended(3, 4), false));
    test(7, "if there is no such marker or question", () -> {
      Consumer<ExamMarker> last = x -> {
        suspend(x, 3, 0);
        suspend(x, 0, 4);
      };
      range(INDEX, 0, 3, last, (x, n) -> x.isSuspended(n, 0), false, true);
      range(INDEX, 0, 4, last, (x, n) -> x.isSuspended(0, n), false, true);
    });
    test(7, "if the amount of one of its deviations in this question is greater than the limit", () -> {
      for (int limit = 1; limit <= 40; limit++) {
        suspended(limit, limit, false);
        suspended(limit, -limit, false);
        if (limit < 40) {
          suspended(limit, limit + 1, true);
          suspended(limit, -limit - 1, true);
        }
      }
      gives("at first, at 6", x -> deviate(x, 0, 0, 6), x -> x.isSuspended(0, 0), false);
      gives("at first, at 7", x -> deviate(x, 0, 0, 7), x -> x.isSuspended(0, 0), true);
    });
    test(7, "one of its deviations", () -> {
      for (int seed = 0; seed < 5; seed++) {
        int[] deviations = new int[5];
        deviations[seed] = -7;
        gives("seed " + seed, x -> deviate(x, 0, 0, deviations), x -> x.isSuspended(0, 0), true);
      }
      gives("five of 6", x -> deviate(x, 0, 0, 6, 6, 6, 6, 6), x -> x.isSuspended(0, 0), false);
      gives("none", seeded(0, 5), x -> x.isSuspended(0, 0), false);
    });
  }
}
