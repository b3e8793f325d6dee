import java.util.NoSuchElementException;

/** A test for each promise: ordinary inputs, the edges that the document names, and wrong inputs. */
public final class PromisesTest {
  private static final Class<IndexOutOfBoundsException> INDEX = IndexOutOfBoundsException.class;
  private static final Class<IllegalArgumentException> ARGUMENT = IllegalArgumentException.class;
  private static final Class<UnsupportedOperationException> UNSUPPORTED = UnsupportedOperationException.class;
  private static final Class<IllegalStateException> STATE = IllegalStateException.class;
  private static final Class<NoSuchElementException> NONE = NoSuchElementException.class;
  private static final Class<ArithmeticException> ARITHMETIC = ArithmeticException.class;
  private static final int LOW = Integer.MIN_VALUE;
  private static final int HIGH = Integer.MAX_VALUE;

  public static void main(String[] args) {
    promise1();
    promise2();
    promise3();
    promise4();
    promise5();
    promise6();
    promise7();
    promise8();
    promise9();
    promise10();
    promise11();
    promise12();
    promise13();
    promise14();
    promise15();
    promise16();
    promise17();
    promise18();
    promise19();
    promise20();
    promise20Grades();
    promise21();
    promise22();
    promise23();
    promise24();
    promise25();
    promise26();
    promise27();
    promise28();
    promise29();
    promise30();
    promise31();
    promise32();
    promise33And34();
    promise35();
    promise36();
    promise37And38();
    Check.end();
  }

  // Helpers

  private static void equal(String what, Object got, Object due) {
    Check.equal(what, got, due);
  }

  private static void refused(String what, Class<? extends RuntimeException> due, Check.Call call) {
    Check.refused(what, due, call);
  }

  /** Enters the marks of a candidate, question by question. */
  private static void fill(ExamMarker x, int marker, int candidate, int... marks) {
    for (int question = 0; question < marks.length; question++) {
      x.enter(marker, candidate, question, marks[question]);
    }
  }

  /** A marker whose results are published: candidate 0 has 10 of 20 points everywhere, from marker 0. */
  private static ExamMarker published() {
    ExamMarker x = new ExamMarker();
    fill(x, 0, 0, 10, 10, 10, 10, 10);
    x.publish();
    return x;
  }

  private static void reported(String what, ExamMarker x, int code, int detail, int causeCode, int causeDetail) {
    equal(what + ": levels", x.levels(), 2);
    equal(what + ": code", x.report(0, 0), code);
    equal(what + ": detail", x.report(0, 1), detail);
    equal(what + ": code of the cause", x.report(1, 0), causeCode);
    equal(what + ": detail of the cause", x.report(1, 1), causeDetail);
  }

  /** Suspends a marker for a question by a deviation of 7, with a new seed. */
  private static void suspend(ExamMarker x, int marker, int question) {
    int seed = x.addSeed(question, 0);
    x.markSeed(marker, question, seed, 7);
  }

  // The promises

  private static void promise1() {
    ExamMarker x = new ExamMarker();
    for (int what = 0; what <= 9; what++) {
      equal("1: count(" + what + ")", x.count(what), what == 6 ? 100 : 0);
    }
    for (int what = 0; what <= 8; what++) {
      equal("1: account(" + what + ")", x.account(what), 0);
    }
    int[] settings = {1, 6, 3, 2, 30};
    for (int what = 0; what < 5; what++) {
      equal("1: setting " + what, x.set(what, settings[what]), settings[what]);
    }
    int[] boundaries = {70, 60, 50, 40};
    for (int grade = 0; grade < 4; grade++) {
      equal("1: boundary " + grade, x.setBoundary(grade, boundaries[grade]), boundaries[grade]);
    }
    for (int question = 0; question < 5; question++) {
      equal("1: maximum " + question, x.setMaximum(question, 20), 20);
    }
    for (int candidate = 0; candidate < 8; candidate++) {
      equal("1: raise " + candidate, x.raise(candidate, 0), 0);
      equal("1: excused " + candidate, x.excuse(candidate, 0, false), false);
      equal("1: missing " + candidate, x.script(candidate, 4, 3), 1);
    }
    equal("1: errorPosition", x.errorPosition(), -1);
    equal("1: levels", x.levels(), 0);
    ExamMarker other = new ExamMarker();
    other.enter(0, 0, 0, 1);
    equal("1: objects are separate", x.count(0), 0);
  }

  private static void promise2() {
    ExamMarker x = new ExamMarker();
    equal("2: first", x.setMaximum(0, 40), 20);
    equal("2: least", x.setMaximum(0, 1), 40);
    equal("2: previous", x.setMaximum(0, 30), 1);
    equal("2: full", x.count(6), 110);
    refused("2: no question below", INDEX, () -> x.setMaximum(-1, 0));
    refused("2: no question above", INDEX, () -> x.setMaximum(5, 41));
    refused("2: too small", ARGUMENT, () -> x.setMaximum(0, 0));
    refused("2: too great", ARGUMENT, () -> x.setMaximum(0, 41));
    refused("2: far too small", ARGUMENT, () -> x.setMaximum(0, LOW));
    x.enter(0, 7, 0, 25);
    refused("2: below an entry", STATE, () -> x.setMaximum(0, 24));
    equal("2: at an entry", x.setMaximum(0, 25), 30);
    x.addSeed(1, 15);
    refused("2: below a seed", STATE, () -> x.setMaximum(1, 14));
    x.markSeed(3, 1, 0, 18);
    refused("2: below a mark of a seed", STATE, () -> x.setMaximum(1, 17));
    equal("2: at a mark of a seed", x.setMaximum(1, 18), 20);
    equal("2: another question", x.setMaximum(2, 1), 20);
    x.addSeed(3, 1);
    x.addSeed(3, 9);
    refused("2: below a second seed", STATE, () -> x.setMaximum(3, 8));
    x.addSeed(4, 1);
    x.markSeed(0, 4, 0, 6);
    refused("2: below a mark of a seed by marker 0", STATE, () -> x.setMaximum(4, 5));
    equal("2: a refused call changes nothing", x.count(6), 25 + 18 + 1 + 20 + 20);
    ExamMarker y = new ExamMarker();
    suspend(y, 0, 0);
    y.enter(0, 0, 0, 12);
    refused("2: below an entry that is not valid", STATE, () -> y.setMaximum(0, 11));
    ExamMarker p = published();
    refused("2: question before published", INDEX, () -> p.setMaximum(5, 20));
    refused("2: range before published", ARGUMENT, () -> p.setMaximum(0, 41));
    refused("2: published before marks", UNSUPPORTED, () -> p.setMaximum(0, 1));
    refused("2: published", UNSUPPORTED, () -> p.setMaximum(0, 20));
  }

  private static void promise3() {
    int[] least = {0, 1, 0, 0, 0};
    int[] greatest = {5, 40, 10, 5, 99};
    int[] first = {1, 6, 3, 2, 30};
    ExamMarker x = new ExamMarker();
    for (int i = 0; i < 5; i++) {
      int what = i;
      equal("3: to the least of " + i, x.set(what, least[i]), first[i]);
      equal("3: to the greatest of " + i, x.set(what, greatest[i]), least[i]);
      refused("3: below the least of " + i, ARGUMENT, () -> x.set(what, least[what] - 1));
      refused("3: above the greatest of " + i, ARGUMENT, () -> x.set(what, greatest[what] + 1));
      equal("3: unchanged " + i, x.set(what, first[i]), greatest[i]);
    }
    refused("3: no setting below", INDEX, () -> x.set(-1, 1000));
    refused("3: no setting above", INDEX, () -> x.set(5, 0));
    ExamMarker p = published();
    for (int i = 0; i < 4; i++) {
      int what = i;
      refused("3: published " + i, UNSUPPORTED, () -> p.set(what, 1));
      refused("3: range before published " + i, ARGUMENT, () -> p.set(what, -1));
    }
    refused("3: setting before published", INDEX, () -> p.set(5, 0));
    equal("3: the fee while published", p.set(4, 99), 30);
    refused("3: the range of the fee while published", ARGUMENT, () -> p.set(4, 100));
  }

  private static void promise4() {
    ExamMarker x = new ExamMarker();
    refused("4: no question below", INDEX, () -> x.addSeed(-1, -1));
    refused("4: no question above", INDEX, () -> x.addSeed(5, 0));
    refused("4: negative", ARGUMENT, () -> x.addSeed(0, -1));
    refused("4: above the maximum", ARGUMENT, () -> x.addSeed(0, 21));
    for (int seed = 0; seed < 5; seed++) {
      equal("4: seed " + seed, x.addSeed(0, seed * 5), seed);
    }
    refused("4: a sixth seed", STATE, () -> x.addSeed(0, 0));
    refused("4: range before a sixth seed", ARGUMENT, () -> x.addSeed(0, 21));
    equal("4: of another question", x.addSeed(4, 20), 0);
    equal("4: seeds", x.count(2), 6);
    equal("4: definitive mark", x.markSeed(0, 0, 3, 15), 0);
    x.publish();
    refused("4: published before a sixth seed", UNSUPPORTED, () -> x.addSeed(0, 0));
    refused("4: range before published", ARGUMENT, () -> x.addSeed(0, 21));
    refused("4: question before published", INDEX, () -> x.addSeed(5, 21));
  }

  private static void promise5() {
    ExamMarker x = new ExamMarker();
    x.addSeed(2, 12);
    refused("5: no marker", INDEX, () -> x.markSeed(4, 2, 0, 0));
    refused("5: no marker below", INDEX, () -> x.markSeed(-1, 2, 0, 0));
    refused("5: no question", INDEX, () -> x.markSeed(0, 5, 0, 0));
    refused("5: no question below", INDEX, () -> x.markSeed(0, -1, 0, 0));
    refused("5: no seed", INDEX, () -> x.markSeed(0, 2, 1, -1));
    refused("5: no seed below", INDEX, () -> x.markSeed(0, 2, -1, 0));
    refused("5: no seed of another question", INDEX, () -> x.markSeed(0, 1, 0, 0));
    refused("5: negative", ARGUMENT, () -> x.markSeed(0, 2, 0, -1));
    refused("5: above the maximum", ARGUMENT, () -> x.markSeed(0, 2, 0, 21));
    equal("5: deviation below", x.markSeed(0, 2, 0, 0), -12);
    refused("5: marked already", STATE, () -> x.markSeed(0, 2, 0, 0));
    refused("5: range before marked already", ARGUMENT, () -> x.markSeed(0, 2, 0, 21));
    equal("5: deviation above", x.markSeed(3, 2, 0, 20), 8);
    equal("5: marks", x.count(3), 2);
    equal("5: pay", x.account(0), 30);
    x.addSeed(0, 1);
    x.markSeed(0, 0, 0, 1);
    equal("5: marks with the very first", x.count(3), 3);
    x.publish();
    refused("5: published before marked already", UNSUPPORTED, () -> x.markSeed(0, 2, 0, 0));
    refused("5: range before published", ARGUMENT, () -> x.markSeed(0, 2, 0, 21));
    refused("5: seed before published", INDEX, () -> x.markSeed(0, 2, 1, 21));
  }

  private static void promise6() {
    ExamMarker x = new ExamMarker();
    refused("6: no marker", INDEX, () -> x.correction(4, 0));
    refused("6: no question", INDEX, () -> x.correction(0, 5));
    refused("6: no marker below", INDEX, () -> x.correction(-1, 0));
    refused("6: no question below", INDEX, () -> x.correction(0, LOW));
    int[] marks = {11, 12, 14, 11, 10};
    int[] corrections = {0, -180, -280, -240, -192};
    for (int seed = 0; seed < 5; seed++) {
      x.addSeed(0, 10);
      equal("6: seed unmarked", x.correction(1, 0), seed == 0 ? 0 : corrections[seed - 1]);
      x.markSeed(1, 0, seed, marks[seed]);
      equal("6: after seed " + seed, x.correction(1, 0), corrections[seed]);
    }
    equal("6: another marker", x.correction(2, 0), 0);
    x.set(0, 2);
    equal("6: within a wider band", x.correction(1, 0), 0);
    x.set(0, 0);
    x.addSeed(3, 10);
    x.markSeed(1, 3, 0, 9);
    equal("6: upwards", x.correction(1, 3), 120);
    x.set(0, 1);
    equal("6: at the band", x.correction(1, 3), 0);
  }

  private static void promise7() {
    ExamMarker x = new ExamMarker();
    refused("7: no marker", INDEX, () -> x.isSuspended(4, 0));
    refused("7: no question", INDEX, () -> x.isSuspended(0, 5));
    x.addSeed(0, 10);
    x.addSeed(0, 10);
    x.markSeed(0, 0, 0, 16);
    equal("7: at the limit", x.isSuspended(0, 0), false);
    x.markSeed(0, 0, 1, 3);
    equal("7: below by more than the limit", x.isSuspended(0, 0), true);
    equal("7: another question", x.isSuspended(0, 1), false);
    equal("7: another marker", x.isSuspended(1, 0), false);
    x.set(1, 7);
    equal("7: at a greater limit", x.isSuspended(0, 0), false);
    x.set(1, 5);
    x.markSeed(1, 0, 0, 16);
    equal("7: above by more than the limit", x.isSuspended(1, 0), true);
  }

  private static void promise8() {
    ExamMarker x = new ExamMarker();
    refused("8: no marker", INDEX, () -> x.enter(4, 0, 0, -1));
    refused("8: no candidate", INDEX, () -> x.enter(0, 8, 0, 1));
    refused("8: no question", INDEX, () -> x.enter(0, 0, 5, 1));
    refused("8: no candidate below", INDEX, () -> x.enter(0, -1, 0, 1));
    refused("8: negative", ARGUMENT, () -> x.enter(0, 0, 0, -1));
    equal("8: no report yet", x.levels(), 0);
    refused("8: too great", UNSUPPORTED, () -> x.enter(0, 0, 0, 21));
    reported("8: too great", x, 1, 0, 12, 20);
    equal("8: first", x.enter(2, 0, 0, 20), 1);
    equal("8: pay", x.account(2), 30);
    refused("8: greater comes before again", UNSUPPORTED, () -> x.enter(2, 0, 0, HIGH));
    reported("8: greater comes before again", x, 1, 0, 12, 20);
    refused("8: again", UNSUPPORTED, () -> x.enter(2, 0, 0, 0));
    reported("8: again", x, 1, 0, 13, 2);
    equal("8: second", x.enter(1, 0, 0, 0), 2);
    refused("8: again comes before agreed", UNSUPPORTED, () -> x.enter(1, 0, 0, 0));
    reported("8: again comes before agreed", x, 1, 0, 13, 1);
    equal("8: third of a disputed script", x.enter(3, 0, 0, 10), 3);
    refused("8: fourth", UNSUPPORTED, () -> x.enter(0, 0, 0, 0));
    reported("8: fourth", x, 1, 0, 14, 3);
    refused("8: again comes before fourth", UNSUPPORTED, () -> x.enter(3, 0, 0, 0));
    reported("8: again comes before fourth", x, 1, 0, 13, 3);
    x.enter(0, 5, 4, 10);
    x.enter(1, 5, 4, 13);
    refused("8: agreed", UNSUPPORTED, () -> x.enter(2, 5, 4, 10));
    reported("8: agreed", x, 1, 0, 15, 4);
    suspend(x, 1, 4);
    equal("8: third if one is not valid", x.enter(2, 5, 4, 10), 3);
    equal("8: one of a suspended marker", x.enter(1, 6, 4, 10), 1);
    equal("8: entries", x.count(0), 7);
    ExamMarker p = published();
    refused("8: published", UNSUPPORTED, () -> p.enter(0, 0, 0, 21));
    reported("8: published", p, 1, 0, 11, 0);
    refused("8: negative before published", ARGUMENT, () -> p.enter(0, 0, 0, -1));
  }

  private static void promise9() {
    ExamMarker x = new ExamMarker();
    equal("9: nothing", x.append(0), 0);
    equal("9: one", x.append('0'), 1);
    equal("9: bytes that are 0 are skipped", x.append('/' << 24 | '0' << 8), 3);
    equal("9: least and greatest", x.append(33 << 16 | 126), 5);
    refused("9: 32", ARGUMENT, () -> x.append(32));
    refused("9: 127", ARGUMENT, () -> x.append('0' << 24 | 127));
    refused("9: a great byte", ARGUMENT, () -> x.append(0x80303030));
    refused("9: all bytes great", ARGUMENT, () -> x.append(-1));
    equal("9: nothing of a refused int is appended", x.count(7), 5);
    for (int i = 5; i < 57; i += 4) {
      equal("9: four more", x.append(0x30303030), i + 4);
    }
    refused("9: four are too many", STATE, () -> x.append(0x30303030));
    refused("9: wrong bytes come before too many", ARGUMENT, () -> x.append(0x30303020));
    equal("9: three still go", x.append(0x00303030), 60);
    refused("9: full", STATE, () -> x.append(0x30));
    equal("9: full, nothing more", x.append(0), 60);
    ExamMarker y = new ExamMarker();
    Sheets.put(y, "1/2:3=14");
    y.sheet();
    equal("9: the order of the bytes", y.entry(3, 2, 0, 1), 14);
  }

  private static void promise10() {
    ExamMarker x = new ExamMarker();
    Sheets.put(x, "3/4:0=0,7=20,1=9");
    equal("10: three entries", x.sheet(), 3);
    equal("10: the buffer is empty", x.count(7), 0);
    equal("10: marker", x.entry(7, 4, 0, 0), 3);
    equal("10: mark of two digits", x.entry(7, 4, 0, 1), 20);
    equal("10: mark 0", x.entry(0, 4, 0, 1), 0);
    equal("10: mark of one digit", x.entry(1, 4, 0, 1), 9);
    equal("10: pay", x.account(3), 90);
    equal("10: one change", x.count(8), 1);
    Sheets.put(x, "2/4:0=1,2=21,1=9");
    refused("10: one is too great", UNSUPPORTED, x::sheet);
    reported("10: one is too great", x, 1, 1, 12, 20);
    equal("10: none is made", x.count(0), 3);
    equal("10: no pay", x.account(2), 0);
    equal("10: the buffer is empty after a refusal", x.count(7), 0);
    equal("10: no error after a refusal", x.errorPosition(), -1);
    Sheets.put(x, "2/0:5=1,5=2");
    refused("10: refused by one of the same sheet", UNSUPPORTED, x::sheet);
    reported("10: refused by one of the same sheet", x, 1, 1, 13, 2);
    Sheets.put(x, "2/0:5=1,");
    refused("10: an error", ARGUMENT, x::sheet);
    equal("10: the buffer is empty after an error", x.count(7), 0);
    equal("10: none is made with an error", x.count(0), 3);
    reported("10: an error leaves the report", x, 1, 1, 13, 2);
    Sheets.put(x, "0/0:0=1,1=1,2=1,3=1,4=1,5=1,6=1,7=1,0=1,1=1,2=1,3=1,4=1,5=1");
    refused("10: fourteen entries", UNSUPPORTED, x::sheet);
    reported("10: fourteen entries", x, 1, 8, 13, 0);
    ExamMarker p = published();
    Sheets.put(p, "0/0:0=99");
    refused("10: published", UNSUPPORTED, p::sheet);
    reported("10: published", p, 1, 0, 11, 0);
    Sheets.put(p, "0");
    refused("10: an error before published", ARGUMENT, p::sheet);
    ExamMarker keeps = new ExamMarker();
    for (int percent = 1; percent <= 6; percent++) {
      keeps.raise(0, percent);
    }
    Sheets.put(keeps, "0/0:0=1,0=1");
    refused("10: a refusal forgets no change", UNSUPPORTED, keeps::sheet);
    for (int left = 5; left >= 0; left--) {
      equal("10: a refusal forgets no change", keeps.undo(), left);
    }
    equal("10: all is taken back", keeps.raise(0, 0), 0);
  }

  private static void promise11() {
    ExamMarker x = new ExamMarker();
    equal("11: at first", x.errorPosition(), -1);
    String[] texts = {"", "0", "0/", "0/0", "0/0:", "0/0:0", "0/0:0=", "0/0:0=1,", "0/0:0=1,1", "0/0:0=1,1=",
        "4/0:0=1", "x", "00", "0:0", "0/5:0=1", "0//", "0/0/0=1", "0/0=", "0/0:8=1", "0/0:,", "0/0:0:1",
        "0/0:01", "0/0:0=x", "0/0:0=,", "0/0:0=00", "0/0:0=01", "0/0:0=0x", "0/0:0=1x", "0/0:0=100",
        "0/0:0=12=", "0/0:0=1,,", "0/0:0=1,8", "0/0:0=1;1=1", "0/0:0=1,1=1/", "~", "!/0:0=1"};
    int[] positions = {0, 1, 2, 3, 4, 5, 6, 8, 9, 10,
        0, 0, 1, 1, 2, 2, 3, 3, 4, 4, 5,
        5, 6, 6, 7, 7, 7, 7, 8,
        8, 8, 8, 7, 11, 0, 0};
    for (int i = 0; i < texts.length; i++) {
      Sheets.put(x, texts[i]);
      refused("11: " + texts[i], ARGUMENT, x::sheet);
      equal("11: position in " + texts[i], x.errorPosition(), positions[i]);
    }
    Sheets.put(x, "0/0:0=1");
    equal("11: append leaves the position", x.errorPosition(), 0);
    equal("11: a sheet", x.sheet(), 1);
    equal("11: no error", x.errorPosition(), -1);
    String full = "0/0:0=1,1=1,2=1,3=1,4=1,5=1,6=1,7=1,0=1,1=1,2=1,3=1,4=1,5=1,";
    Sheets.put(x, full.substring(0, 60));
    refused("11: sixty characters", ARGUMENT, x::sheet);
    equal("11: the end of sixty characters", x.errorPosition(), 60);
  }

  private static void promise12() {
    ExamMarker x = new ExamMarker();
    x.addSeed(1, 10);
    x.addSeed(1, 10);
    x.markSeed(2, 1, 0, 14);
    x.markSeed(3, 1, 0, 2);
    x.markSeed(0, 1, 0, 7);
    x.enter(2, 6, 1, 15);
    x.enter(3, 6, 1, 18);
    x.enter(0, 6, 1, 0);
    int[][] due = {{2, 15, 15 * 120 - 480, 1}, {3, 18, 2400, 0}, {0, 0, 360, 1}};
    for (int index = 0; index < 3; index++) {
      for (int what = 0; what < 4; what++) {
        equal("12: part " + what + " of entry " + index, x.entry(6, 1, index, what), due[index][what]);
      }
    }
    x.enter(2, 7, 1, 3);
    equal("12: at least 0", x.entry(7, 1, 0, 2), 0);
    x.enter(0, 7, 1, 20);
    equal("12: at most the maximum", x.entry(7, 1, 1, 2), 2400);
    x.markSeed(2, 1, 1, 13);
    equal("12: half units of two seeds", x.entry(6, 1, 0, 2), 15 * 120 - 420);
    refused("12: no candidate", INDEX, () -> x.entry(8, 1, 3, 4));
    refused("12: no question", INDEX, () -> x.entry(6, 5, 0, 0));
    refused("12: no question below", INDEX, () -> x.entry(6, -1, 0, 0));
    refused("12: no entry", NONE, () -> x.entry(6, 1, 3, 4));
    refused("12: no entry below", NONE, () -> x.entry(6, 1, -1, 0));
    refused("12: no entry of this script", NONE, () -> x.entry(7, 1, 2, 0));
    refused("12: what below", ARGUMENT, () -> x.entry(6, 1, 0, -1));
    refused("12: what above", ARGUMENT, () -> x.entry(6, 1, 0, 4));
  }

  private static void scripted(String what, ExamMarker x, int question, int settled, int valid, int standing) {
    equal("13: settled mark, " + what, x.script(0, question, 0), settled);
    equal("13: valid entries, " + what, x.script(0, question, 2), valid);
    equal("13: standing, " + what, x.script(0, question, 3), standing);
  }

  private static void promise13() {
    ExamMarker x = new ExamMarker();
    scripted("none", x, 0, 0, 0, 1);
    x.enter(0, 0, 0, 10);
    scripted("one", x, 0, 1200, 1, 0);
    x.enter(1, 0, 0, 13);
    scripted("two at the tolerance", x, 0, 1380, 2, 0);
    x.set(2, 2);
    scripted("two beyond it", x, 0, 1200, 2, 2);
    x.enter(2, 0, 0, 16);
    scripted("the second is nearer", x, 0, 1740, 3, 0);
    x.set(2, 3);
    scripted("the first two agree", x, 0, 1380, 3, 0);
    x.set(2, 2);
    suspend(x, 0, 0);
    scripted("the first is not valid", x, 0, 1560, 2, 2);
    equal("13: entries", x.script(0, 0, 1), 3);
    suspend(x, 1, 0);
    scripted("only the third is valid", x, 0, 1920, 1, 0);
    suspend(x, 2, 0);
    scripted("none is valid", x, 0, 0, 0, 1);
    x.enter(0, 0, 1, 0);
    x.enter(1, 0, 1, 20);
    x.enter(2, 0, 1, 10);
    scripted("both are equally near", x, 1, 1800, 3, 0);
    x.enter(0, 0, 2, 0);
    x.enter(1, 0, 2, 20);
    x.enter(2, 0, 2, 9);
    scripted("the first is nearer", x, 2, 540, 3, 0);
    x.enter(0, 0, 3, 20);
    x.enter(1, 0, 3, 0);
    x.enter(2, 0, 3, 10);
    scripted("both are equally near, the greater comes first", x, 3, 1800, 3, 0);
    equal("13: no appeal", x.script(0, 3, 4), 0);
    refused("13: no candidate", INDEX, () -> x.script(8, 0, 5));
    refused("13: no question", INDEX, () -> x.script(0, 5, 0));
    refused("13: no candidate below", INDEX, () -> x.script(-1, 0, 0));
    refused("13: what below", ARGUMENT, () -> x.script(0, 0, -1));
    refused("13: what above", ARGUMENT, () -> x.script(0, 0, 5));
    ExamMarker p = published();
    p.appeal(0, 1);
    equal("13: open appeal", p.script(0, 1, 4), 1);
    p.remark(1, 0, 1, 13);
    equal("13: remark at the tolerance", p.script(0, 1, 4), 2);
    equal("13: settled mark with it", p.script(0, 1, 0), 1200);
    p.appeal(0, 2);
    p.remark(1, 0, 2, 6);
    equal("13: remark that counts", p.script(0, 2, 4), 3);
    equal("13: settled mark with one that counts", p.script(0, 2, 0), 720);
    equal("13: entries with one that counts", p.script(0, 2, 1), 1);
  }

  private static void promise14() {
    ExamMarker x = new ExamMarker();
    equal("14: was not", x.excuse(7, 4, true), false);
    equal("14: was", x.excuse(7, 4, true), true);
    equal("14: second", x.excuse(7, 0, true), false);
    refused("14: third", STATE, () -> x.excuse(7, 1, true));
    equal("14: one of two again", x.excuse(7, 0, true), true);
    equal("14: third is not excused", x.excuse(7, 1, false), false);
    equal("14: no more", x.excuse(7, 4, false), true);
    equal("14: third after that", x.excuse(7, 1, true), false);
    equal("14: another candidate", x.excuse(6, 1, false), false);
    refused("14: no candidate", INDEX, () -> x.excuse(8, 0, true));
    refused("14: no question", INDEX, () -> x.excuse(0, 5, true));
    refused("14: no question below", INDEX, () -> x.excuse(0, -1, true));
    x.publish();
    refused("14: published before a third", UNSUPPORTED, () -> x.excuse(7, 2, true));
    refused("14: published", UNSUPPORTED, () -> x.excuse(7, 1, false));
    refused("14: question before published", INDEX, () -> x.excuse(7, 5, true));
  }

  private static void promise15() {
    ExamMarker x = new ExamMarker();
    equal("15: first", x.raise(3, 10), 0);
    equal("15: previous", x.raise(3, 0), 10);
    refused("15: no candidate", INDEX, () -> x.raise(8, 11));
    refused("15: no candidate below", INDEX, () -> x.raise(-1, 0));
    refused("15: above", ARGUMENT, () -> x.raise(0, 11));
    refused("15: below", ARGUMENT, () -> x.raise(0, -1));
    ExamMarker p = published();
    refused("15: published", UNSUPPORTED, () -> p.raise(0, 1));
    refused("15: range before published", ARGUMENT, () -> p.raise(0, 11));
    refused("15: candidate before published", INDEX, () -> p.raise(8, 1));
  }

  private static void promise16() {
    ExamMarker x = new ExamMarker();
    equal("16: first", x.setPoint(100, 100), 1);
    equal("16: before it", x.setPoint(0, 0), 2);
    equal("16: between", x.setPoint(50, 10), 3);
    equal("16: set again", x.setPoint(50, 20), 3);
    equal("16: its value", x.curve(50), 20);
    equal("16: the order", x.curve(75), 60);
    equal("16: greatest place", x.setPoint(200, 0), 4);
    equal("16: fifth", x.setPoint(199, 100), 5);
    refused("16: sixth", STATE, () -> x.setPoint(1, 1));
    equal("16: set with five", x.setPoint(200, 100), 5);
    equal("16: set the first with five", x.setPoint(0, 1), 5);
    equal("16: set the second with five", x.setPoint(50, 20), 5);
    refused("16: place above", ARGUMENT, () -> x.setPoint(201, 0));
    refused("16: place below", ARGUMENT, () -> x.setPoint(-1, 0));
    refused("16: value above", ARGUMENT, () -> x.setPoint(1, 101));
    refused("16: value below", ARGUMENT, () -> x.setPoint(0, -1));
    equal("16: points", x.count(4), 5);
    x.publish();
    refused("16: published before a sixth", UNSUPPORTED, () -> x.setPoint(1, 1));
    refused("16: published", UNSUPPORTED, () -> x.setPoint(0, 0));
    refused("16: range before published", ARGUMENT, () -> x.setPoint(201, 0));
  }

  private static void promise17() {
    ExamMarker x = new ExamMarker();
    refused("17: none", NONE, () -> x.removePoint(0));
    x.setPoint(0, 5);
    x.setPoint(100, 50);
    x.setPoint(50, 90);
    refused("17: none at this place", NONE, () -> x.removePoint(99));
    refused("17: no such place", NONE, () -> x.removePoint(LOW));
    equal("17: its value", x.removePoint(50), 90);
    refused("17: it is gone", NONE, () -> x.removePoint(50));
    equal("17: points", x.count(4), 2);
    equal("17: the others are left", x.curve(50), 28);
    equal("17: the first", x.removePoint(0), 5);
    equal("17: one point is no curve", x.curve(50), 50);
    equal("17: the last", x.removePoint(100), 50);
    refused("17: none is left", NONE, () -> x.removePoint(100));
    for (int i = 0; i < 5; i++) {
      x.setPoint(10 * i, 20 * i);
    }
    x.removePoint(0);
    for (int i = 1; i < 5; i++) {
      equal("17: those behind it are left", x.curve(10 * i), 20 * i);
    }
    ExamMarker p = published();
    refused("17: published before no point", UNSUPPORTED, () -> p.removePoint(0));
  }

  private static void promise18() {
    ExamMarker x = new ExamMarker();
    equal("18: nothing", x.curve(0), 0);
    equal("18: full", x.curve(100), 100);
    refused("18: above the full maximum", ARGUMENT, () -> x.curve(101));
    refused("18: below", ARGUMENT, () -> x.curve(-1));
    for (int question = 0; question < 5; question++) {
      x.setMaximum(question, 40);
    }
    equal("18: half is rounded up", x.curve(1), 1);
    equal("18: greatest", x.curve(200), 100);
    refused("18: above 200", ARGUMENT, () -> x.curve(201));
    x.setPoint(10, 40);
    equal("18: one point is not used", x.curve(10), 5);
    x.setPoint(20, 43);
    equal("18: at most the first place", x.curve(9), 40);
    equal("18: at the first place", x.curve(10), 40);
    equal("18: just below half", x.curve(11), 40);
    equal("18: above half", x.curve(12), 41);
    equal("18: half", x.curve(15), 42);
    equal("18: at the last place", x.curve(20), 43);
    equal("18: beyond it", x.curve(200), 43);
    x.setPoint(30, 40);
    equal("18: a falling curve, half", x.curve(25), 42);
    equal("18: a falling curve, rounded down", x.curve(22), 42);
    equal("18: a falling curve, rounded up", x.curve(21), 43);
    equal("18: the value of the last", x.curve(31), 40);
    equal("18: the middle point", x.curve(20), 43);
    ExamMarker steep = new ExamMarker();
    steep.setPoint(10, 40);
    steep.setPoint(11, 50);
    equal("18: a steep curve", steep.curve(11), 50);
    equal("18: a steep curve, below", steep.curve(10), 40);
  }

  private static void promise19() {
    ExamMarker x = new ExamMarker();
    refused("19: no grade", INDEX, () -> x.setBoundary(4, 30));
    refused("19: no grade below", INDEX, () -> x.setBoundary(-1, 0));
    equal("19: greatest", x.setBoundary(0, 100), 70);
    refused("19: above", ARGUMENT, () -> x.setBoundary(0, 101));
    equal("19: least", x.setBoundary(3, 1), 40);
    refused("19: below", ARGUMENT, () -> x.setBoundary(3, 0));
    refused("19: not less than the one before", ARGUMENT, () -> x.setBoundary(1, 100));
    equal("19: just less", x.setBoundary(1, 99), 60);
    refused("19: not greater than the one behind", ARGUMENT, () -> x.setBoundary(1, 50));
    equal("19: just greater", x.setBoundary(1, 51), 99);
    refused("19: the first, not greater", ARGUMENT, () -> x.setBoundary(0, 51));
    refused("19: the last, not less", ARGUMENT, () -> x.setBoundary(3, 50));
    equal("19: the same again", x.setBoundary(2, 50), 50);
    refused("19: the third, not greater", ARGUMENT, () -> x.setBoundary(2, 1));
    equal("19: the third, just greater", x.setBoundary(2, 2), 50);
    ExamMarker p = published();
    refused("19: published", UNSUPPORTED, () -> p.setBoundary(0, 71));
    refused("19: range before published", ARGUMENT, () -> p.setBoundary(0, 60));
    refused("19: grade before published", INDEX, () -> p.setBoundary(4, 60));
  }

  private static void promise20() {
    ExamMarker x = new ExamMarker();
    refused("20: no candidate", INDEX, () -> x.result(8, 6));
    refused("20: no candidate below", INDEX, () -> x.result(-1, 0));
    refused("20: what before no grade", ARGUMENT, () -> x.result(0, 6));
    refused("20: what below", ARGUMENT, () -> x.result(0, -1));
    refused("20: no grade", NONE, () -> x.result(0, 0));
    x.enter(0, 0, 4, 0);
    equal("20: nothing, numerator", x.result(0, 0), 0L);
    equal("20: nothing, denominator", x.result(0, 1), 1L);
    x.enter(0, 1, 0, 10);
    x.enter(0, 1, 1, 15);
    x.excuse(1, 1, true);
    x.excuse(1, 2, true);
    equal("20: excused, numerator", x.result(1, 0), 2000L);
    equal("20: excused, denominator", x.result(1, 1), 1L);
    equal("20: excused, scaled", x.result(1, 2), 17L);
    x.setMaximum(4, 30);
    equal("20: another maximum, numerator", x.result(1, 0), 13200L);
    equal("20: another maximum, denominator", x.result(1, 1), 7L);
    x.raise(1, 7);
    equal("20: raised, numerator", x.result(1, 0), 14124L);
    equal("20: raised, denominator", x.result(1, 1), 7L);
    fill(x, 0, 2, 20, 20, 20, 20, 30);
    equal("20: full", x.result(2, 0), 13200L);
    x.raise(2, 10);
    equal("20: at most the full maximum", x.result(2, 0), 13200L);
    equal("20: at most the full maximum, denominator", x.result(2, 1), 1L);
    equal("20: at most 100", x.result(2, 2), 100L);
    suspend(x, 0, 4);
    equal("20: a grade by an entry that is not valid", x.result(0, 4), 4L);
    x.enter(0, 3, 1, 5);
    x.excuse(3, 1, true);
    equal("20: a grade by an entry of an excused question", x.result(3, 0), 0L);
  }

  private static void graded(String what, ExamMarker x, int scaled, int plain, int grade) {
    equal("20: scaled mark, " + what, x.result(0, 2), scaled);
    equal("20: plain grade, " + what, x.result(0, 3), plain);
    equal("20: grade, " + what, x.result(0, 4), grade);
    equal("20: lifted, " + what, x.result(0, 5), plain - grade);
  }

  private static void promise20Grades() {
    int[] marks = {70, 69, 60, 59, 50, 49, 40, 39, 0};
    int[] plain = {0, 1, 1, 2, 2, 3, 3, 4, 4};
    for (int i = 0; i < marks.length; i++) {
      ExamMarker x = new ExamMarker();
      x.setPoint(0, marks[i]);
      x.setPoint(1, marks[i]);
      x.enter(0, 0, 0, 0);
      graded("boundary at " + marks[i], x, marks[i], plain[i], plain[i]);
    }
    ExamMarker x = new ExamMarker();
    fill(x, 0, 0, 14, 14, 14, 14, 12);
    graded("four of five", x, 68, 1, 0);
    x.set(3, 1);
    graded("beyond the distance", x, 68, 1, 1);
    x.set(3, 0);
    graded("no distance", x, 68, 1, 1);
    x = new ExamMarker();
    fill(x, 0, 0, 20, 20, 13, 13, 2);
    graded("two of five", x, 68, 1, 1);
    x = new ExamMarker();
    fill(x, 0, 0, 20, 20, 13, 13, 2);
    x.excuse(0, 4, true);
    graded("two of four", x, 83, 0, 0);
    x = new ExamMarker();
    fill(x, 0, 0, 14, 14, 13, 13, 0);
    x.excuse(0, 4, true);
    graded("half of four", x, 68, 1, 0);
    x.excuse(0, 0, true);
    graded("one of three", x, 67, 1, 1);
    x.set(3, 5);
    graded("one of three, a greater distance", x, 67, 1, 1);
    x = new ExamMarker();
    fill(x, 0, 0, 8, 8, 8, 7, 7);
    graded("to the last but one", x, 38, 4, 3);
    x.setMaximum(0, 21);
    graded("hundredths of the maximum", x, 38, 4, 4);
    x = new ExamMarker();
    for (int question = 0; question < 5; question++) {
      x.setMaximum(question, 3);
    }
    x.setBoundary(0, 67);
    x.setPoint(0, 66);
    x.setPoint(1, 66);
    fill(x, 0, 0, 2, 2, 2, 2, 2);
    graded("two thirds are less than 67 hundredths", x, 66, 1, 1);
    x.setBoundary(0, 66);
    graded("at the boundary", x, 66, 0, 0);
  }

  private static void promise21() {
    ExamMarker x = new ExamMarker();
    refused("21: no candidate", INDEX, () -> x.recount(8));
    refused("21: no candidate below", INDEX, () -> x.recount(-1));
    equal("21: nothing", x.recount(0), 0);
    x.enter(0, 0, 0, 4);
    x.enter(0, 1, 0, 20);
    equal("21: one", x.recount(0), 480);
    x.enter(1, 0, 0, 12);
    equal("21: disputed", x.recount(0), 480);
    x.enter(2, 0, 0, 9);
    equal("21: the third and the nearer", x.recount(0), 1260);
    x.set(2, 8);
    equal("21: the first two", x.recount(0), 960);
    suspend(x, 0, 0);
    equal("21: the last two", x.recount(0), 1260);
    equal("21: none is valid", x.recount(1), 0);
    x.enter(3, 0, 4, 20);
    equal("21: two scripts", x.recount(0), 3660);
    x.excuse(0, 0, true);
    equal("21: not those excused", x.recount(0), 2400);
    ExamMarker p = published();
    equal("21: published", p.recount(0), 6000);
    p.appeal(0, 0);
    p.remark(1, 0, 0, 13);
    equal("21: a remark that does not count", p.recount(0), 6000);
    p.appeal(0, 1);
    p.remark(1, 0, 1, 20);
    equal("21: a remark that counts", p.recount(0), 7200);
    p.appeal(0, 4);
    p.remark(1, 0, 4, 0);
    equal("21: two of them", p.recount(0), 6000);
    ExamMarker f = published();
    f.appeal(0, 0);
    f.remark(1, 0, 0, 20);
    equal("21: a remark of the first question", f.recount(0), 7200);
    ExamMarker e = new ExamMarker();
    fill(e, 0, 0, 10, 10, 10, 10, 10);
    e.excuse(0, 2, true);
    e.publish();
    e.appeal(0, 2);
    e.remark(1, 0, 2, 20);
    equal("21: a remark of an excused question", e.recount(0), 4800);
  }

  private static void ranks(String what, ExamMarker x, int... due) {
    for (int rank = 0; rank < due.length; rank++) {
      equal("22: " + what + ", rank " + rank, x.ranked(rank), due[rank]);
    }
    refused("22: " + what + ", no such rank", NONE, () -> x.ranked(due.length));
  }

  private static void promise22() {
    ExamMarker x = new ExamMarker();
    ranks("none", x);
    refused("22: below", NONE, () -> x.ranked(-1));
    refused("22: far above", NONE, () -> x.ranked(HIGH));
    fill(x, 0, 7, 10, 10, 10);
    fill(x, 0, 3, 10, 10, 10);
    fill(x, 0, 5, 20, 20, 20);
    fill(x, 0, 0, 0);
    ranks("by scaled marks, then by numbers", x, 5, 3, 7, 0);
    refused("22: below the first", NONE, () -> x.ranked(-1));
    x.setPoint(0, 50);
    x.setPoint(200, 50);
    ranks("by raw results", x, 5, 3, 7, 0);
    x.raise(7, 1);
    ranks("by raw results that are fractions", x, 5, 7, 3, 0);
    x.setPoint(0, 90);
    x.setPoint(100, 10);
    ranks("by a falling curve, then by raw results", x, 0, 7, 3, 5);
    suspend(x, 0, 0);
    suspend(x, 0, 1);
    suspend(x, 0, 2);
    ranks("none is valid", x, 0, 3, 5, 7);
  }

  private static void promise23() {
    ExamMarker x = new ExamMarker();
    for (int grade = 0; grade < 5; grade++) {
      equal("23: none", x.graded(grade), 0);
    }
    refused("23: no grade", INDEX, () -> x.graded(5));
    refused("23: no grade below", INDEX, () -> x.graded(-1));
    fill(x, 0, 0, 14, 14, 14, 14, 12);
    fill(x, 0, 1, 20, 20, 20, 20, 20);
    fill(x, 0, 2, 12, 12, 12, 12, 12);
    fill(x, 0, 7, 0);
    int[] due = {2, 1, 0, 0, 1};
    for (int grade = 0; grade < 5; grade++) {
      equal("23: grade " + grade, x.graded(grade), due[grade]);
    }
  }

  private static void promise24() {
    ExamMarker x = new ExamMarker();
    refused("24: no candidate", INDEX, () -> x.gradeIf(8, 0, 21));
    refused("24: no question", INDEX, () -> x.gradeIf(0, 5, 0));
    refused("24: mark before no grade", ARGUMENT, () -> x.gradeIf(0, 0, 21));
    refused("24: mark below", ARGUMENT, () -> x.gradeIf(0, 0, -1));
    refused("24: no grade", NONE, () -> x.gradeIf(0, 0, 20));
    fill(x, 0, 0, 10, 10, 10, 10, 10);
    equal("24: the same", x.gradeIf(0, 0, 10), 2);
    equal("24: none", x.gradeIf(0, 0, 0), 3);
    equal("24: just below the next", x.gradeIf(0, 0, 19), 2);
    equal("24: the greatest", x.gradeIf(0, 0, 20), 1);
    equal("24: lifted by it", x.gradeIf(0, 1, 9), 2);
    equal("24: nothing has changed", x.result(0, 4), 2);
    x.excuse(0, 3, true);
    equal("24: excused", x.gradeIf(0, 3, 0), 2);
    refused("24: excused, mark above", ARGUMENT, () -> x.gradeIf(0, 3, 21));
    equal("24: one that is missing", missing().gradeIf(0, 4, 20), 2);
    ExamMarker p = published();
    p.appeal(0, 0);
    p.remark(1, 0, 0, 20);
    equal("24: with a remark that counts", p.gradeIf(0, 0, 10), 2);
  }

  /** A marker in which candidate 0 has 8 of 20 points but for question 4, which is missing. */
  private static ExamMarker missing() {
    ExamMarker x = new ExamMarker();
    fill(x, 0, 0, 8, 8, 8, 8);
    return x;
  }

  private static void promise25() {
    ExamMarker x = new ExamMarker();
    refused("25: no candidate", INDEX, () -> x.needed(8, 0, 0));
    refused("25: no question", INDEX, () -> x.needed(0, 5, 0));
    refused("25: no grade number", INDEX, () -> x.needed(0, 0, 5));
    refused("25: no grade number below", INDEX, () -> x.needed(0, 0, -1));
    refused("25: no grade", NONE, () -> x.needed(0, 0, 4));
    fill(x, 0, 0, 10, 10, 10, 10, 10);
    equal("25: for the last", x.needed(0, 0, 4), 0);
    equal("25: for the next", x.needed(0, 0, 1), 20);
    equal("25: by a lift", x.needed(0, 0, 2), 8);
    refused("25: the maximum is not sufficient", NONE, () -> x.needed(0, 0, 0));
    x.excuse(0, 2, true);
    equal("25: excused", x.needed(0, 2, 2), 0);
    refused("25: excused, not as good", NONE, () -> x.needed(0, 2, 1));
    equal("25: nothing has changed", x.result(0, 4), 2);
    ExamMarker y = missing();
    y.setPoint(32, 50);
    y.setPoint(37, 75);
    y.setPoint(52, 0);
    equal("25: whatever it would be with greater marks", y.needed(0, 4, 0), 4);
    equal("25: with a greater one", y.gradeIf(0, 4, 20), 4);
  }

  private static void promise26() {
    ExamMarker x = new ExamMarker();
    refused("26: no question", INDEX, () -> x.meanBits(5));
    refused("26: no question below", INDEX, () -> x.meanBits(-1));
    refused("26: no candidates", ARITHMETIC, () -> x.meanBits(0));
    x.enter(0, 0, 1, 0);
    equal("26: zero", x.meanBits(0), 0L);
    int[] marks = {1, 20, 7, 13, 0, 19, 3};
    int sum = 0;
    for (int i = 0; i < marks.length; i++) {
      x.enter(1, i + 1, 0, marks[i]);
      sum += marks[i] * 120;
      equal("26: mean " + i, x.meanBits(0), Double.doubleToLongBits((double) sum / 120.0 / (double) (i + 2)));
    }
    x.excuse(2, 0, true);
    equal("26: not if it is excused", x.meanBits(0), Double.doubleToLongBits((sum - 2400) / 120.0 / 7.0));
    ExamMarker y = new ExamMarker();
    y.set(0, 0);
    for (int seed = 0; seed < 5; seed++) {
      y.addSeed(0, 1);
      y.markSeed(0, 0, seed, seed == 0 ? 0 : 1);
    }
    y.enter(0, 0, 0, 0);
    equal("26: a fifth", y.meanBits(0), Double.doubleToLongBits(24.0 / 120.0));
    y.excuse(0, 0, true);
    refused("26: the only one is excused", ARITHMETIC, () -> y.meanBits(0));
    y.setMaximum(1, 40);
    y.enter(0, 0, 1, 40);
    equal("26: greatest", y.meanBits(1), Double.doubleToLongBits(40.0));
  }

  private static void promise27() {
    ExamMarker x = new ExamMarker();
    refused("27: no marker", INDEX, () -> x.validBits(4));
    refused("27: no marker below", INDEX, () -> x.validBits(-1));
    refused("27: no entries", ARITHMETIC, () -> x.validBits(0));
    x.enter(0, 0, 0, 1);
    equal("27: all", x.validBits(0), Float.floatToIntBits(1.0f));
    refused("27: those of another marker", ARITHMETIC, () -> x.validBits(1));
    suspend(x, 0, 0);
    equal("27: none", x.validBits(0), 0);
    for (int candidate = 0; candidate < 8; candidate++) {
      x.enter(0, candidate, 1, 1);
      equal("27: some", x.validBits(0), Float.floatToIntBits((candidate + 1.0f) / (candidate + 2.0f)));
    }
    for (int candidate = 1; candidate < 8; candidate++) {
      x.enter(0, candidate, 0, 1);
      equal("27: fewer", x.validBits(0), Float.floatToIntBits(8.0f / (candidate + 9.0f)));
    }
  }

  private static void promise28() {
    ExamMarker x = new ExamMarker();
    fill(x, 0, 3, 10, 10, 10, 10);
    fill(x, 0, 5, 10, 10);
    refused("28: missing", UNSUPPORTED, x::publish);
    reported("28: missing", x, 2, 3, 21, 4);
    equal("28: not published", x.count(5), 0);
    x.excuse(3, 4, true);
    x.excuse(5, 2, true);
    x.excuse(5, 4, true);
    refused("28: missing of the next", UNSUPPORTED, x::publish);
    reported("28: missing of the next", x, 2, 5, 21, 3);
    x.enter(0, 5, 3, 10);
    x.enter(1, 3, 1, 20);
    refused("28: disputed", UNSUPPORTED, x::publish);
    reported("28: disputed", x, 2, 3, 22, 1);
    x.enter(2, 3, 1, 20);
    x.enter(1, 5, 2, 20);
    equal("28: published", x.publish(), 2);
    equal("28: it is", x.count(5), 1);
    refused("28: again", STATE, x::publish);
    reported("28: again leaves the report", x, 2, 3, 22, 1);
    ExamMarker first = new ExamMarker();
    first.enter(0, 0, 4, 1);
    refused("28: the first question", UNSUPPORTED, first::publish);
    reported("28: the first question", first, 2, 0, 21, 0);
    equal("28: without candidates", new ExamMarker().publish(), 0);
    ExamMarker y = new ExamMarker();
    fill(y, 0, 0, 1, 1, 1, 1, 1);
    suspend(y, 0, 2);
    refused("28: missing if none is valid", UNSUPPORTED, y::publish);
    reported("28: missing if none is valid", y, 2, 0, 21, 2);
    ExamMarker z = new ExamMarker();
    fill(z, 0, 0, 1, 20);
    z.enter(1, 0, 1, 1);
    refused("28: the lowest question", UNSUPPORTED, z::publish);
    reported("28: the lowest question", z, 2, 0, 22, 1);
  }

  private static void promise29() {
    ExamMarker x = published();
    equal("29: withdrawn", x.withdraw(), 1);
    equal("29: it is", x.count(5), 0);
    refused("29: not published", STATE, x::withdraw);
    equal("29: changes are possible again", x.raise(0, 1), 0);
    x.publish();
    x.appeal(0, 0);
    refused("29: an open appeal", UNSUPPORTED, x::withdraw);
    x.remark(1, 0, 0, 10);
    refused("29: an appeal with its remark", UNSUPPORTED, x::withdraw);
    equal("29: no report of it", x.levels(), 0);
    equal("29: still published", x.count(5), 1);
    x.undo();
    x.undo();
    equal("29: the appeal is taken back", x.withdraw(), 1);
  }

  private static void promise30() {
    ExamMarker x = new ExamMarker();
    refused("30: no candidate", INDEX, () -> x.appeal(8, 0));
    refused("30: no question", INDEX, () -> x.appeal(0, 5));
    refused("30: no question below", INDEX, () -> x.appeal(0, -1));
    equal("30: no report yet", x.levels(), 0);
    refused("30: not published", UNSUPPORTED, () -> x.appeal(4, 0));
    reported("30: not published", x, 3, 4, 31, 0);
    fill(x, 0, 1, 10, 10, 10, 10);
    x.excuse(1, 4, true);
    fill(x, 0, 2, 10, 10, 10, 10, 10);
    x.publish();
    refused("30: no grade", UNSUPPORTED, () -> x.appeal(4, 0));
    reported("30: no grade", x, 3, 4, 32, 4);
    equal("30: fee", x.appeal(1, 0), 30);
    x.set(4, 7);
    equal("30: another fee, without an entry", x.appeal(1, 4), 7);
    refused("30: again", UNSUPPORTED, () -> x.appeal(1, 4));
    reported("30: again", x, 3, 1, 33, 4);
    x.remark(1, 1, 4, 20);
    equal("30: third", x.appeal(1, 3), 7);
    refused("30: fourth", UNSUPPORTED, () -> x.appeal(1, 1));
    reported("30: fourth", x, 3, 1, 34, 3);
    refused("30: again comes before fourth", UNSUPPORTED, () -> x.appeal(1, 4));
    reported("30: again comes before fourth", x, 3, 1, 33, 4);
    x.set(4, 0);
    equal("30: of another candidate, free", x.appeal(2, 1), 0);
    equal("30: fees", x.account(5), 44);
    equal("30: appeals", x.account(7), 4);
  }

  private static void promise31() {
    ExamMarker x = new ExamMarker();
    refused("31: no marker", INDEX, () -> x.remark(4, 0, 0, -1));
    refused("31: no candidate", INDEX, () -> x.remark(0, 8, 0, -1));
    refused("31: no question", INDEX, () -> x.remark(0, 0, 5, -1));
    refused("31: negative", ARGUMENT, () -> x.remark(0, 0, 0, -1));
    equal("31: no report yet", x.levels(), 0);
    refused("31: not published", UNSUPPORTED, () -> x.remark(0, 6, 3, 21));
    reported("31: not published", x, 4, 6, 41, 3);
    fill(x, 0, 6, 10, 10, 10, 10, 12);
    x.enter(3, 6, 3, 11);
    x.publish();
    x.appeal(6, 3);
    refused("31: another script", UNSUPPORTED, () -> x.remark(1, 6, 2, 1));
    reported("31: another script", x, 4, 6, 41, 2);
    refused("31: too great", UNSUPPORTED, () -> x.remark(0, 6, 3, 21));
    reported("31: too great", x, 4, 6, 42, 20);
    refused("31: by the first marker", UNSUPPORTED, () -> x.remark(0, 6, 3, 20));
    reported("31: by the first marker", x, 4, 6, 43, 0);
    refused("31: by the second marker", UNSUPPORTED, () -> x.remark(3, 6, 3, 20));
    reported("31: by the second marker", x, 4, 6, 43, 3);
    equal("31: still open", x.account(8), 1);
    equal("31: better, but not the grade", x.remark(1, 6, 3, 15), 0);
    equal("31: counts", x.script(6, 3, 4), 3);
    equal("31: pay", x.account(1), 30);
    refused("31: once", UNSUPPORTED, () -> x.remark(1, 6, 3, 15));
    reported("31: once", x, 4, 6, 41, 3);
    x.set(4, 44);
    x.appeal(6, 4);
    x.set(4, 1);
    equal("31: a better grade, the fee that was paid", x.remark(2, 6, 4, 20), 44);
    equal("31: refunded", x.account(6), 44);
    equal("31: fees", x.account(5), 74);
    x.appeal(6, 0);
    equal("31: a worse grade", x.remark(2, 6, 0, 0), 0);
    equal("31: the worse mark counts", x.script(6, 0, 0), 0);
    equal("31: the worse grade", x.result(6, 4), 2);
    ExamMarker y = new ExamMarker();
    fill(y, 0, 0, 10, 10, 10, 12, 17);
    y.publish();
    y.appeal(0, 0);
    equal("31: at the tolerance", y.remark(1, 0, 0, 7), 0);
    equal("31: does not count", y.script(0, 0, 4), 2);
    y.appeal(0, 1);
    equal("31: beyond it", y.remark(1, 0, 1, 14), 30);
    equal("31: the tolerance is asked for the mark before, not the entry", y.script(0, 1, 0), 1680);
    ExamMarker s = published();
    s.undo();
    suspend(s, 2, 0);
    s.publish();
    s.appeal(0, 0);
    equal("31: by a suspended marker", s.remark(2, 0, 0, 20), 30);
  }

  private static void promise32() {
    ExamMarker x = new ExamMarker();
    refused("32: below", ARGUMENT, () -> x.account(-1));
    refused("32: above", ARGUMENT, () -> x.account(9));
    x.setMaximum(0, 40);
    x.enter(0, 0, 0, 30);
    x.enter(1, 0, 0, 30);
    x.setMaximum(0, 30);
    x.addSeed(0, 5);
    x.markSeed(1, 0, 0, 5);
    equal("32: marker 0, as the maximum was", x.account(0), 50);
    equal("32: marker 1", x.account(1), 90);
    fill(x, 2, 1, 10, 10, 10, 10, 10);
    for (int question = 1; question < 5; question++) {
      x.enter(3, 0, question, 10);
    }
    x.publish();
    x.appeal(0, 2);
    x.appeal(0, 3);
    x.appeal(1, 3);
    x.remark(0, 0, 2, 0);
    x.remark(0, 1, 3, 20);
    int[] due = {110, 90, 160, 120, 480, 90, 30, 3, 1};
    for (int what = 0; what <= 8; what++) {
      equal("32: account(" + what + ")", x.account(what), due[what]);
    }
    x.appeal(0, 0);
    equal("32: the first script is open", x.account(8), 2);
  }

  private static void promise33And34() {
    ExamMarker x = new ExamMarker();
    equal("33: no levels", x.levels(), 0);
    refused("34: no level", NONE, () -> x.report(0, 2));
    refused("34: no level below", NONE, () -> x.report(-1, 0));
    refused("33: a refusal", UNSUPPORTED, () -> x.appeal(2, 1));
    equal("33: two levels", x.levels(), 2);
    equal("34: code", x.report(0, 0), 3);
    equal("34: detail", x.report(0, 1), 2);
    equal("34: code of the cause", x.report(1, 0), 31);
    equal("34: detail of the cause", x.report(1, 1), 0);
    refused("34: no third level", NONE, () -> x.report(2, 2));
    refused("34: no level below", NONE, () -> x.report(-1, 0));
    refused("34: what above", ARGUMENT, () -> x.report(1, 2));
    refused("34: what below", ARGUMENT, () -> x.report(0, -1));
    x.enter(0, 0, 0, 1);
    equal("33: it stays", x.levels(), 2);
    refused("33: another refusal", UNSUPPORTED, x::publish);
    reported("34: it replaces the earlier one", x, 2, 0, 21, 1);
    x.undo();
    reported("34: undo leaves it", x, 2, 0, 21, 1);
  }

  private static void promise35() {
    ExamMarker x = new ExamMarker();
    refused("35: below", ARGUMENT, () -> x.count(-1));
    refused("35: above", ARGUMENT, () -> x.count(10));
    x.enter(0, 0, 0, 1);
    x.enter(1, 0, 0, 20);
    x.enter(0, 7, 2, 1);
    x.enter(1, 7, 2, 20);
    x.enter(1, 6, 2, 20);
    x.excuse(7, 2, true);
    x.addSeed(3, 4);
    x.addSeed(4, 4);
    x.markSeed(0, 4, 0, 4);
    x.markSeed(2, 4, 0, 4);
    x.markSeed(3, 4, 0, 4);
    x.setPoint(3, 4);
    x.setMaximum(1, 7);
    x.append(0x3131);
    int[] due = {5, 3, 2, 3, 1, 0, 87, 2, 6, 1};
    for (int what = 0; what <= 9; what++) {
      equal("35: count(" + what + ")", x.count(what), due[what]);
    }
    x.excuse(7, 2, false);
    equal("35: disputed, no more excused", x.count(9), 2);
    ExamMarker p = published();
    equal("35: published", p.count(5), 1);
  }

  private static void promise36() {
    ExamMarker x = new ExamMarker();
    refused("36: nothing", STATE, x::undo);
    for (int percent = 1; percent <= 8; percent++) {
      x.raise(0, percent);
      equal("36: changes", x.count(8), Math.min(6, percent));
    }
    for (int left = 5; left >= 0; left--) {
      equal("36: left", x.undo(), left);
    }
    refused("36: older ones are forgotten", STATE, x::undo);
    equal("36: the state six changes ago", x.raise(0, 0), 2);
    equal("36: one more", x.count(8), 1);
    undoesEachChange();
    undoesPublicationAndAppeals();
    ExamMarker y = new ExamMarker();
    y.append(0x30);
    y.enter(0, 0, 0, 1);
    y.append(0x31);
    y.undo();
    equal("36: the buffer stays", y.count(7), 2);
    refused("36: an error", ARGUMENT, y::sheet);
    y.save();
    equal("36: save is no change", y.count(8), 0);
    y.enter(0, 0, 0, 1);
    refused("36: a refusal", UNSUPPORTED, () -> y.enter(0, 0, 0, 1));
    equal("36: a refusal is no change", y.undo(), 0);
    equal("36: the error position stays", y.errorPosition(), 1);
    equal("36: the report stays", y.report(1, 0), 13);
    equal("36: the entry is gone", y.count(0), 0);
  }

  /** The change counts as one, and undo takes it back; at most 6 of them are kept. */
  private static void undone(String what, ExamMarker x, Runnable change) {
    int due = Math.min(6, x.count(8) + 1);
    change.run();
    equal("36: changes after " + what, x.count(8), due);
    equal("36: undo of " + what, x.undo(), due - 1);
  }

  private static void undoesEachChange() {
    ExamMarker x = new ExamMarker();
    undone("setMaximum", x, () -> x.setMaximum(0, 30));
    equal("36: setMaximum", x.count(6), 100);
    undone("set", x, () -> x.set(4, 1));
    undone("addSeed", x, () -> x.addSeed(0, 5));
    equal("36: addSeed", x.addSeed(0, 9), 0);
    undone("markSeed", x, () -> x.markSeed(0, 0, 0, 19));
    equal("36: markSeed", x.isSuspended(0, 0), false);
    equal("36: pay for a mark of a seed", x.account(0), 0);
    undone("enter", x, () -> x.enter(0, 0, 0, 1));
    equal("36: enter", x.script(0, 0, 1), 0);
    equal("36: pay for an entry", x.account(4), 0);
    Sheets.put(x, "1/1:1=1,2=2");
    undone("sheet", x, x::sheet);
    equal("36: sheet", x.count(0), 0);
    undone("excuse", x, () -> x.excuse(0, 0, true));
    undone("raise", x, () -> x.raise(0, 5));
    undone("setPoint", x, () -> x.setPoint(1, 1));
    equal("36: setPoint", x.count(4), 0);
    x.setPoint(5, 5);
    undone("removePoint", x, () -> x.removePoint(5));
    equal("36: removePoint", x.count(4), 1);
    undone("setBoundary", x, () -> x.setBoundary(0, 90));
    x.save();
    x.raise(1, 1);
    undone("restore", x, x::restore);
    equal("36: restore", x.raise(1, 1), 1);
    equal("36: the setting is as before", x.set(4, 30), 30);
    equal("36: the excuse is as before", x.excuse(0, 0, false), false);
    equal("36: the raise is as before", x.raise(0, 0), 0);
    equal("36: the boundary is as before", x.setBoundary(0, 70), 70);
  }

  private static void undoesPublicationAndAppeals() {
    ExamMarker x = published();
    x.undo();
    undone("publish", x, x::publish);
    equal("36: publish", x.count(5), 0);
    x.publish();
    undone("withdraw", x, x::withdraw);
    equal("36: withdraw", x.count(5), 1);
    undone("appeal", x, () -> x.appeal(0, 0));
    equal("36: appeal", x.account(7), 0);
    equal("36: the fee of an appeal", x.account(5), 0);
    x.appeal(0, 0);
    undone("remark", x, () -> x.remark(1, 0, 0, 20));
    equal("36: remark", x.script(0, 0, 4), 1);
    equal("36: the refund of a remark", x.account(6), 0);
    equal("36: the pay of a remark", x.account(1), 0);
    equal("36: the mark of a remark", x.script(0, 0, 0), 1200);
    x.remark(1, 0, 0, 0);
    equal("36: another mark in its place", x.script(0, 0, 0), 0);
  }

  private static void promise37And38() {
    ExamMarker x = new ExamMarker();
    refused("38: nothing was saved", STATE, x::restore);
    equal("37: no entries", x.save(), 0);
    x.enter(0, 0, 0, 1);
    equal("37: entries", x.save(), 1);
    x.enter(0, 1, 0, 1);
    x.append(0x30);
    refused("38: a refusal", UNSUPPORTED, () -> x.enter(0, 1, 0, 1));
    equal("38: entries", x.restore(), 1);
    equal("38: the entry is gone", x.script(1, 0, 1), 0);
    equal("38: its pay is gone", x.account(0), 30);
    equal("38: the buffer stays", x.count(7), 1);
    equal("38: the report stays", x.report(1, 0), 13);
    equal("38: it is a change", x.count(8), 3);
    x.enter(0, 2, 0, 1);
    x.enter(0, 3, 0, 1);
    equal("38: it stays saved", x.restore(), 1);
    equal("38: undo", x.undo(), 5);
    equal("38: undone", x.count(0), 3);
    savesAll();
    savesWhatIsInside();
    ExamMarker p = published();
    p.save();
    p.appeal(0, 0);
    p.remark(1, 0, 0, 20);
    equal("38: from appeals", p.restore(), 5);
    equal("38: no appeals", p.account(7), 0);
    equal("38: no refund", p.account(6), 0);
    equal("38: published", p.withdraw(), 1);
    p.restore();
    equal("38: published again", p.count(5), 1);
  }

  private static void savesWhatIsInside() {
    ExamMarker x = new ExamMarker();
    x.enter(0, 0, 0, 5);
    x.addSeed(0, 3);
    x.save();
    x.undo();
    x.undo();
    x.enter(1, 7, 1, 7);
    x.addSeed(0, 9);
    equal("38: one entry in the place of another", x.restore(), 1);
    equal("38: its script", x.recount(0), 600);
    equal("38: its marker", x.entry(0, 0, 0, 0), 0);
    equal("38: its pay", x.account(1), 0);
    equal("38: the definitive mark", x.markSeed(2, 0, 0, 3), 0);
    ExamMarker p = published();
    p.appeal(0, 0);
    p.remark(1, 0, 0, 20);
    p.save();
    p.undo();
    p.remark(1, 0, 0, 19);
    p.restore();
    equal("38: the mark of a remark", p.script(0, 0, 0), 2400);
  }

  private static void savesAll() {
    ExamMarker x = new ExamMarker();
    x.setMaximum(0, 30);
    x.set(2, 7);
    x.addSeed(1, 3);
    x.markSeed(2, 1, 0, 4);
    x.excuse(4, 4, true);
    x.raise(5, 5);
    x.setPoint(6, 6);
    x.setBoundary(3, 33);
    x.save();
    x.setMaximum(0, 31);
    x.set(2, 8);
    x.addSeed(1, 3);
    x.markSeed(3, 1, 0, 4);
    x.excuse(4, 4, false);
    x.raise(5, 6);
    x.setPoint(6, 7);
    x.setBoundary(3, 34);
    equal("38: entries", x.restore(), 0);
    equal("38: maximum", x.setMaximum(0, 30), 30);
    equal("38: setting", x.set(2, 7), 7);
    equal("38: seeds", x.count(2), 1);
    equal("38: marks of seeds", x.count(3), 1);
    equal("38: excused", x.excuse(4, 4, true), true);
    equal("38: raise", x.raise(5, 5), 5);
    equal("38: point", x.removePoint(6), 6);
    equal("38: boundary", x.setBoundary(3, 33), 33);
  }
}
