import java.util.Arrays;
import java.util.function.Consumer;

/** Boundaries of entries, settled marks and sheets: promises 8 to 13. */
final class EntryBoundaries extends Boundary {
  /** Entries of candidate 0 for question 0 by markers 0, 1, .., and none of them agree. */
  private static final int[] APART = {0, 20, 10};

  private EntryBoundaries() {
  }

  static void run() {
    entering();
    marks();
    repeatedEntries();
    agreedEntries();
    appending();
    sheets();
    sheetsInARow();
    refusedSheets();
    errorPositions();
    entries();
    values();
    scripts();
    settledMarks();
    thirdMarks();
  }

  private static Consumer<ExamMarker> entered(int... marks) {
    return x -> {
      for (int marker = 0; marker < marks.length; marker++) {
        x.enter(marker, 0, 0, marks[marker]);
      }
    };
  }

  /** Lets markers 0 and 1 have corrections of this many times 24 and -30 units for question 0. */
  private static Consumer<ExamMarker> corrected(int times24, int times30) {
    return x -> {
      x.set(0, 0);
      x.set(1, 40);
      for (int seed = 0; seed < 5; seed++) {
        x.addSeed(0, seed == 0 ? times24 : 0);
        x.markSeed(0, 0, seed, 0);
        if (seed > 0) {
          x.markSeed(1, 0, seed, seed == 1 ? times30 : 0);
        }
      }
    };
  }

  // Promise 8

  private static void entering() {
    test(8, "- `marker`: the marker", () ->
        gives("the last", x -> x.enter(3, 0, 0, 1), x -> x.entry(0, 0, 0, 0), 3));
    test(8, "- `candidate`: the candidate", () ->
        gives("the last", x -> x.enter(3, 7, 0, 1), x -> x.script(7, 0, 1), 1));
    test(8, "- `question`: the question", () ->
        gives("the last", x -> x.enter(3, 7, 4, 1), x -> x.script(7, 4, 1), 1));
    test(8, "if there is no such marker, candidate or question", () -> {
      range(INDEX, 0, 3, NOTHING, (x, n) -> x.enter(n, 0, 0, 1), 1, 1);
      range(INDEX, 0, 7, NOTHING, (x, n) -> x.enter(0, n, 0, 1), 1, 1);
      range(INDEX, 0, 4, NOTHING, (x, n) -> x.enter(0, 0, n, 1), 1, 1);
    });
    test(8, "if the mark is negative", () -> {
      Consumer<ExamMarker> told = x -> answer(x, y -> y.enter(0, 0, 0, 21));
      gives("0", told, x -> x.enter(0, 0, 0, 0), 1);
      refuses("-1", ARGUMENT, told, x -> x.enter(0, 0, 0, -1));
      refuses("the least int", ARGUMENT, told, x -> x.enter(0, 0, 0, LOW));
    });
    test(8, "if it is refused; this leaves a report", () ->
        reports("a refused one", NOTHING, x -> x.enter(0, 0, 0, 21), 1, 0, 12, 20));
    test(8, "11 and 0, the results are published", () -> {
      reports("published", PUBLISHED, x -> x.enter(1, 0, 0, 10), 1, 0, 11, 0);
      gives("not yet", TENS, x -> x.enter(1, 0, 0, 10), 2);
      gives("withdrawn", PUBLISHED.andThen(ExamMarker::withdraw), x -> x.enter(1, 0, 0, 10), 2);
    });
  }

  private static void marks() {
    test(8, "- `mark`: the mark", () ->
        gives("the mark", x -> x.enter(0, 0, 0, 19), x -> x.entry(0, 0, 0, 1), 19));
    test(8, "an entry is a mark from 0 to the maximum.", () -> {
      for (int maximum : new int[] {1, 20, 40}) {
        Consumer<ExamMarker> setup = x -> x.setMaximum(4, maximum);
        gives("none of " + maximum, setup, x -> x.enter(0, 7, 4, 0), 1);
        gives("all of " + maximum, setup, x -> x.enter(0, 7, 4, maximum), 1);
        reports("more than " + maximum, setup, x -> x.enter(0, 7, 4, maximum + 1), 1, 0, 12, maximum);
      }
    });
    test(8, "12 and the maximum, the mark is greater", () -> {
      gives("as great", x -> x.setMaximum(0, 21), x -> x.enter(0, 0, 0, 21), 1);
      reports("greater", x -> x.setMaximum(0, 21), x -> x.enter(0, 0, 0, 22), 1, 0, 12, 21);
      reports("the greatest int", x -> x.setMaximum(0, 21), x -> x.enter(0, 0, 0, HIGH), 1, 0, 12, 21);
    });
  }

  private static void repeatedEntries() {
    test(8, "13 and the marker, it made an entry of this script already", () -> {
      for (int i = 0; i < 4; i++) {
        int marker = i;
        Consumer<ExamMarker> once = x -> x.enter(marker, 7, 4, 10);
        reports("marker " + i, once, x -> x.enter(marker, 7, 4, 20), 1, 0, 13, marker);
        gives("another marker than " + i, once, x -> x.enter((marker + 1) % 4, 7, 4, 20), 2);
        gives("another question, " + i, once, x -> x.enter(marker, 7, 3, 20), 1);
        gives("another candidate, " + i, once, x -> x.enter(marker, 6, 4, 20), 1);
      }
      for (int i = 0; i < 3; i++) {
        int marker = i;
        reports("entry " + i, entered(APART), x -> x.enter(marker, 0, 0, 1), 1, 0, 13, marker);
      }
      reports("one that is not valid", x -> {
        suspend(x, 2, 0);
        x.enter(2, 0, 0, 1);
      }, x -> x.enter(2, 0, 0, 1), 1, 0, 13, 2);
    });
    test(8, "The script of a candidate for a question has at most 3 entries, each of a different marker, in the "
        + "order in which they were made;", () -> {
      for (int size = 0; size < 3; size++) {
        int marker = size;
        gives("entry " + size, entered(Arrays.copyOf(APART, size)), x -> x.enter(marker, 0, 0, 10), size + 1);
        gives("marker of entry " + size, entered(APART), x -> x.entry(0, 0, marker, 0), size);
        gives("mark of entry " + size, entered(APART), x -> x.entry(0, 0, marker, 1), APART[size]);
      }
    });
    test(8, "14 and 3, there are 3 entries", () -> {
      gives("the third", entered(0, 20), x -> x.enter(3, 0, 0, 10), 3);
      reports("a fourth", entered(APART), x -> x.enter(3, 0, 0, 10), 1, 0, 14, 3);
      reports("a fourth, one of three is valid", entered(APART).andThen(x -> {
        suspend(x, 0, 0);
        suspend(x, 1, 0);
      }), x -> x.enter(3, 0, 0, 10), 1, 0, 14, 3);
      gives("of another script", entered(APART), x -> x.enter(3, 0, 1, 10), 1);
    });
    test(8, "An entry is valid if its marker is not suspended for the question.", () -> {
      Consumer<ExamMarker> entry = x -> x.enter(1, 3, 2, 10);
      gives("at the limit", entry.andThen(x -> deviate(x, 1, 2, 6)), x -> x.entry(3, 2, 0, 3), 1);
      gives("beyond it", entry.andThen(x -> deviate(x, 1, 2, 7)), x -> x.entry(3, 2, 0, 3), 0);
      gives("another question", entry.andThen(x -> suspend(x, 1, 1)), x -> x.entry(3, 2, 0, 3), 1);
      gives("another marker", entry.andThen(x -> suspend(x, 0, 2)), x -> x.entry(3, 2, 0, 3), 1);
    });
  }

  private static void agreedEntries() {
    test(8, "15 and the question, there are two valid entries that agree", () -> {
      reports("two at the tolerance", entered(10, 13), x -> x.enter(2, 0, 0, 0), 1, 0, 15, 0);
      gives("two beyond it", entered(10, 14), x -> x.enter(2, 0, 0, 0), 3);
      gives("one", entered(10), x -> x.enter(2, 0, 0, 0), 2);
      reports("the last question", x -> {
        x.enter(3, 7, 4, 1);
        x.enter(2, 7, 4, 1);
      }, x -> x.enter(0, 7, 4, 1), 1, 0, 15, 4);
      gives("the first is not valid", entered(10, 13).andThen(x -> suspend(x, 0, 0)), x -> x.enter(2, 0, 0, 0), 3);
      gives("the second is not valid", entered(10, 13).andThen(x -> suspend(x, 1, 0)), x -> x.enter(2, 0, 0, 0), 3);
    });
    test(8, "Two values agree if they differ by at most the tolerance, which is from 0 to 10 points, at "
        + "first 3.", () -> {
      for (int i = 0; i <= 10; i++) {
        int tolerance = i;
        agree("at " + i, tolerance, NOTHING, 5, 5 + i, true);
        agree("at " + i + ", downwards", tolerance, NOTHING, 5 + i, 5, true);
        agree("a point beyond " + i, tolerance, NOTHING, 5, 6 + i, false);
        agree("a point beyond " + i + ", downwards", tolerance, NOTHING, 6 + i, 5, false);
        // The values differ by 120 units for each point of the marks and 126, or 114, units more or less.
        agree("6 units beyond " + i, tolerance, corrected(1, 3), 5, 6 + i, false);
        agree("6 units beyond " + i + ", downwards", tolerance, corrected(4, 1), 4 + i, 5, false);
        agree("6 units below " + i, tolerance, corrected(4, 1), 5, 6 + i, i > 0);
        agree("6 units below " + i + ", downwards", tolerance, corrected(1, 3), 4 + i, 5, i > 0);
      }
    });
  }

  private static void agree(String what, int tolerance, Consumer<ExamMarker> setup, int first, int second,
      boolean due) {
    Consumer<ExamMarker> both = setup.andThen(x -> x.set(2, tolerance)).andThen(entered(first, second));
    gives(what, both, x -> x.script(0, 0, 3), due ? 0 : 2);
  }

  // Promises 9 to 11

  private static Consumer<ExamMarker> written(int characters) {
    return x -> {
      for (int i = 0; i < characters; i++) {
        x.append('0');
      }
    };
  }

  private static Consumer<ExamMarker> written(String text) {
    return x -> Sheets.put(x, text);
  }

  private static void appending() {
    test(9, "- `packed`: the characters", () ->
        gives("none", NOTHING, x -> x.append(0), 0));
    test(9, "the bytes of an int from the most significant one to the least significant one", () -> {
      gives("four", written("0/0:0=1"), ExamMarker::sheet, 1);
      gives("four, the other way round", x -> x.append('0' | '/' << 8 | '0' << 16 | ':' << 24), x -> {
        answer(x, ExamMarker::sheet);
        return x.errorPosition();
      }, 0);
    });
    test(9, "where bytes that are 0 are skipped", () -> {
      for (int zeros = 0; zeros < 16; zeros++) {
        int packed = 0;
        for (int position = 0; position < 4; position++) {
          packed |= (zeros >> position & 1) != 0 ? 0 : 'x' << 8 * position;
        }
        int characters = packed;
        gives("zeros " + zeros, written(5), x -> x.append(characters), 9 - Integer.bitCount(zeros));
        gives("zeros " + zeros + ", full", written(56 + Integer.bitCount(zeros)), x -> x.append(characters), 60);
      }
    });
    test(9, "if a byte that is not 0 is not from 33 to 126", () -> {
      for (int position = 0; position < 4; position++) {
        int shift = 8 * position;
        int others = 0x41414141 & ~(255 << shift);
        for (int sign : new int[] {33, 126}) {
          gives(sign + " at " + position, written(3), x -> x.append(others | sign << shift), 7);
          gives(sign + " alone at " + position, written(3), x -> x.append(sign << shift), 4);
        }
        for (int sign : new int[] {1, 32, 127, 128, 255}) {
          refuses(sign + " at " + position, ARGUMENT, written(3), x -> x.append(others | sign << shift));
          refuses(sign + " alone at " + position, ARGUMENT, written(3), x -> x.append(sign << shift));
        }
      }
      refuses("the least int", ARGUMENT, written(3), x -> x.append(LOW));
      refuses("the greatest int", ARGUMENT, written(3), x -> x.append(HIGH));
      refuses("-1", ARGUMENT, written(3), x -> x.append(-1));
    });
    test(9, "if there would be more than 60 characters", () -> {
      int[] packed = {0, 0x41, 0x4141, 0x414141, 0x41414141};
      for (int i = 0; i <= 4; i++) {
        int size = i;
        gives("60 with " + i, written(60 - size), x -> x.append(packed[size]), 60);
        if (i > 0) {
          refuses("61 with " + i, STATE, written(61 - size), x -> x.append(packed[size]));
          refuses(i + " with 60", STATE, written(60), x -> x.append(packed[size]));
        }
      }
    });
    test(9, "A buffer holds at most 60 characters.", () -> {
      for (int size = 1; size <= 60; size++) {
        gives("character " + size, written(size - 1), x -> x.append('~'), size);
      }
      refuses("a 61st", STATE, written(60), x -> x.append('~'));
      gives("as many again after sheet", written(60).andThen(x -> answer(x, ExamMarker::sheet)), x -> {
        written(59).accept(x);
        return x.append('~');
      }, 60);
    });
  }

  private static void sheet(String text, int due) {
    gives(text, written(text), ExamMarker::sheet, due);
  }

  private static void sheets() {
    test(10, "marker, question, candidate = one digit of a number that exists", () -> {
      for (int digit = 0; digit <= 9; digit++) {
        String marker = digit + "/0:0=1";
        String question = "0/" + digit + ":0=1";
        String candidate = "0/0:" + digit + "=1";
        if (digit < 4) {
          sheet(marker, 1);
        } else {
          misreads(marker, TENS, marker, 0);
        }
        if (digit < 5) {
          sheet(question, 1);
        } else {
          misreads(question, TENS, question, 2);
        }
        if (digit < 8) {
          sheet(candidate, 1);
        } else {
          misreads(candidate, TENS, candidate, 4);
        }
      }
    });
    test(10, "one or two digits that do not start with 0, or 0 alone", () -> {
      for (int mark = 0; mark <= 20; mark++) {
        int due = mark;
        sheet("3/4:7=" + mark, 1);
        gives("mark " + mark, written("3/4:7=" + mark).andThen(ExamMarker::sheet), x -> x.entry(7, 4, 0, 1), due);
      }
      for (int mark = 21; mark <= 99; mark++) {
        refusesSheet("mark " + mark, NOTHING, "3/4:7=" + mark, 1, 0, 12, 20);
      }
      misreads("00", TENS, "3/4:7=00", 7);
      misreads("01", TENS, "3/4:7=01", 7);
      misreads("09 before another entry", TENS, "3/4:7=09,0=1", 7);
      misreads("none", TENS, "3/4:7=,0=1", 6);
    });
    test(10, "it is read as far as digits follow that it can have", () -> {
      misreads("100", TENS, "3/4:7=100", 8);
      misreads("1000", TENS, "3/4:7=1000", 8);
      misreads("101 of the second", TENS, "3/4:7=10,0=101", 13);
      sheet("3/4:7=10,0=10", 2);
      sheet("3/4:7=0,0=0", 2);
    });
    test(10, "braces mean zero or more repetitions", () -> {
      StringBuilder text = new StringBuilder("3/4:0=20");
      sheet(text.toString(), 1);
      for (int candidate = 1; candidate < 8; candidate++) {
        text.append(',').append(candidate).append("=20");
        sheet(text.toString(), candidate + 1);
      }
    });
    test(10, "The buffer is empty afterwards, also if an exception is thrown.", () -> {
      for (String text : new String[] {"0/0:0=1", "0/0:0=99", "0/0:0=", ""}) {
        gives(text, written(text).andThen(x -> answer(x, ExamMarker::sheet)), x -> x.count(7), 0);
      }
    });
    test(10, "if there is an error in the text", () -> {
      misreads("empty", TENS, "", 0);
      misreads("a comma at the end", TENS, "0/0:0=1,", 8);
      misreads("an entry that would be refused before the error", TENS, "0/0:0=99,0=1x", 12);
      misreads("while published", PUBLISHED, "0/0:1=x", 6);
      misreads("60 characters", TENS, "0/0:0=1,1=1,2=1,3=1,4=1,5=1,6=1,7=1,0=1,1=1,2=1,3=1,4=1,5=1,", 60);
    });
  }

  private static Consumer<ExamMarker> read(String... texts) {
    return x -> {
      for (String text : texts) {
        Sheets.put(x, text);
        answer(x, ExamMarker::sheet);
      }
    };
  }

  private static void sheetsInARow() {
    test(10, "Returns the number of entries made.", () -> {
      gives("one after two", read("0/0:0=11,1=12").andThen(written("1/1:2=3")), ExamMarker::sheet, 1);
      gives("two after one", read("1/1:2=3").andThen(written("0/0:0=11,1=12")), ExamMarker::sheet, 2);
      gives("one after an error", read("0/0:0=11,1=12,").andThen(written("1/1:2=3")), ExamMarker::sheet, 1);
      gives("one after a refusal", read("0/0:0=11,0=12").andThen(written("1/1:2=3")), ExamMarker::sheet, 1);
      gives("eight after eight", read("0/0:0=1,1=1,2=1,3=1,4=1,5=1,6=1,7=1")
          .andThen(written("1/4:0=1,1=1,2=1,3=1,4=1,5=1,6=1,7=1")), ExamMarker::sheet, 8);
      Consumer<ExamMarker> entered = x -> x.enter(1, 2, 1, 3);
      for (String text : new String[] {"0/0:0=11,1=12,", "0/0:0=11,0=12", "0/0:2=1", "x"}) {
        Consumer<ExamMarker> setup = read(text, "1/1:2=3");
        gives("marker after " + text, setup, x -> x.entry(2, 1, 0, 0), 1);
        gives("mark after " + text, setup, x -> x.entry(2, 1, 0, 1), 3);
        gives("entries after " + text, setup, x -> x.count(0), text.equals("0/0:2=1") ? 2 : 1);
      }
      same("as enter", entered, read("1/1:2=3"));
    });
  }

  private static void refusedSheets() {
    String eight = "1/0:0=1,1=1,2=1,3=1,4=1,5=1,6=1,7=1";
    test(10, "if an entry is refused; this leaves a report", () -> {
      for (int i = 0; i < 8; i++) {
        int candidate = i;
        refusesSheet("entry " + i, x -> x.enter(1, candidate, 0, 9), eight, 1, i, 13, 1);
      }
      refusesSheet("the first of two", x -> {
        x.enter(1, 7, 0, 9);
        x.enter(1, 3, 0, 9);
      }, eight, 1, 3, 13, 1);
    });
    test(10, "Makes the entries of the sheet in the buffer, one after the other; if one is refused, none "
        + "is made.", () -> {
      gives("all of eight", written(eight), ExamMarker::sheet, 8);
      refusesSheet("a ninth", NOTHING, eight + ",4=2", 1, 8, 13, 1);
      refusesSheet("fourteen", NOTHING, eight + ",0=2,1=1,2=1,3=1,4=1,5=1", 1, 8, 13, 1);
      refusesSheet("the same candidate at once", NOTHING, "0/0:0=1,0=1", 1, 1, 13, 0);
    });
    test(10, "For enter and sheet: level 0 has code 1 and the number of the entry in the sheet, 0 for enter", () -> {
      refusesSheet("11", PUBLISHED, "1/0:0=1,1=99", 1, 0, 11, 0);
      refusesSheet("12", x -> x.setMaximum(4, 9), "1/4:0=9,1=10", 1, 1, 12, 9);
      refusesSheet("13", entered(1), "0/0:7=9,1=1,0=2", 1, 2, 13, 0);
      refusesSheet("14", entered(APART), "3/0:7=9,0=2", 1, 1, 14, 3);
      refusesSheet("15", entered(1, 4), "3/0:7=9,6=3,5=3,0=2", 1, 3, 15, 0);
    });
  }

  private static void errorPositions() {
    String text = "3/4:7=20,0=0,1=5";
    test(11, "or the length of the text if it ends too early", () -> {
      for (int length = 0; length < text.length(); length++) {
        boolean ends = length == 7 || length == 8 || length == 12;
        if (!ends) {
          misreads("the first " + length, TENS, text.substring(0, length), length);
        } else {
          gives("the first " + length, written(text.substring(0, length)).andThen(ExamMarker::sheet),
              ExamMarker::errorPosition, -1);
        }
      }
    });
    test(11, "The error position of a text is the index of the first character that cannot continue a sheet", () -> {
      for (int index = 0; index < text.length(); index++) {
        String wrong = text.substring(0, index) + "~" + text.substring(index + 1);
        misreads(wrong, TENS, wrong, index);
        misreads(wrong + " and another one", TENS, wrong + "!", index);
      }
      misreads("one more", TENS, text + "/", text.length());
      misreads("the last of sixty", TENS, "0/0:0=1,1=1,2=1,3=1,4=1,5=1,6=1,7=1,0=1,1=1,2=1,3=1,4=1,5=1/", 59);
    });
    test(11, "characters in quotes are meant literally", () -> {
      // Commas behind a mark of two digits, of one digit, and of 0 alone.
      String signs = "3/4:7=20,6=5,5=0,4=1";
      for (int index : new int[] {1, 3, 5, 8, 10, 12, 14, 16, 18}) {
        char right = signs.charAt(index);
        for (int sign : new int[] {right - 1, right + 1, '!', '~'}) {
          String wrong = signs.substring(0, index) + (char) sign + signs.substring(index + 1);
          misreads(wrong, TENS, wrong, index);
        }
      }
      misreads("'/' for a marker", TENS, "/", 0);
      misreads("':' for a question", TENS, "3/:", 2);
      misreads("'/' for a candidate", TENS, "3/4:/", 4);
      misreads("':' for a mark", TENS, "3/4:7=:", 6);
      misreads("'/' for a mark", TENS, "3/4:7=/", 6);
    });
    test(11, "or -1 if that text had no error or sheet was not called", () -> {
      gives("not called", NOTHING, ExamMarker::errorPosition, -1);
      gives("not called, something in the buffer", written("~"), ExamMarker::errorPosition, -1);
      gives("no error", written("0/0:0=1").andThen(ExamMarker::sheet), ExamMarker::errorPosition, -1);
      gives("no error, but refused", written("0/0:0=99").andThen(x -> answer(x, ExamMarker::sheet)),
          ExamMarker::errorPosition, -1);
      gives("no error after one", written("x").andThen(x -> answer(x, ExamMarker::sheet)).andThen(written("0/0:0=1"))
          .andThen(ExamMarker::sheet), ExamMarker::errorPosition, -1);
      gives("refused after an error", written("x").andThen(x -> answer(x, ExamMarker::sheet))
          .andThen(written("0/0:0=99")).andThen(x -> answer(x, ExamMarker::sheet)), ExamMarker::errorPosition, -1);
    });
    test(11, "Returns the error position of the text that sheet read most recently.", () ->
        gives("of the second", written("0").andThen(x -> answer(x, ExamMarker::sheet)).andThen(written("0/0"))
            .andThen(x -> answer(x, ExamMarker::sheet)).andThen(written("0/")), ExamMarker::errorPosition, 3));
  }

  // Promise 12

  private static void entries() {
    Consumer<ExamMarker> corners = x -> {
      x.enter(1, 0, 0, 2);
      x.enter(2, 7, 0, 3);
      x.enter(3, 0, 4, 4);
    };
    test(12, "- `candidate`: the candidate", () -> gives("the last", corners, x -> x.entry(7, 0, 0, 0), 2));
    test(12, "- `question`: the question", () -> gives("the last", corners, x -> x.entry(0, 4, 0, 0), 3));
    test(12, "if there is no such candidate or question", () -> {
      range(INDEX, 0, 7, corners, (x, n) -> x.entry(n, 0, 0, 1), 2, 3);
      range(INDEX, 0, 4, corners, (x, n) -> x.entry(0, n, 0, 1), 2, 4);
    });
    test(12, "- `index`: the number of the entry", () ->
        gives("the last", entered(APART), x -> x.entry(0, 0, 2, 0), 2));
    test(12, "if there is no such entry", () -> {
      refuses("none", NONE, NOTHING, x -> x.entry(0, 0, 0, 0));
      range(NONE, 0, 0, entered(0), (x, n) -> x.entry(0, 0, n, 0), 0, 0);
      range(NONE, 0, 1, entered(0, 20), (x, n) -> x.entry(0, 0, n, 0), 0, 1);
      range(NONE, 0, 2, entered(APART), (x, n) -> x.entry(0, 0, n, 0), 0, 2);
      refuses("of another question", NONE, entered(APART), x -> x.entry(0, 1, 0, 0));
      refuses("of another candidate", NONE, entered(APART), x -> x.entry(1, 0, 0, 0));
    });
    test(12, "if what is not from 0 to 3", () ->
        range(ARGUMENT, 0, 3, corners, (x, n) -> x.entry(0, 4, 0, n), 3, 1));
    test(12, "- `what`: 0 for the marker, 1 for the mark, 2 for the value in units, also if it is not valid, 3 for "
        + "1 if it is valid, otherwise 0", () -> {
      gives("value", corners, x -> x.entry(7, 0, 0, 2), 360);
      gives("valid", corners, x -> x.entry(7, 0, 0, 3), 1);
      Consumer<ExamMarker> suspended = corners.andThen(x -> deviate(x, 2, 0, -7));
      gives("value of one that is not valid", suspended, x -> x.entry(7, 0, 0, 2), 360 + 7 * 120);
      gives("not valid", suspended, x -> x.entry(7, 0, 0, 3), 0);
    });
  }

  private static void value(String what, int mark, int due, int... deviations) {
    gives(what, x -> {
      deviate(x, 0, 0, deviations);
      x.enter(0, 0, 0, mark);
    }, x -> x.entry(0, 0, 0, 2), due);
  }

  private static void values() {
    test(12, "The value of an entry is its mark times 120 plus the correction of its marker, but at least 0 and at "
        + "most the maximum times 120 units.", () -> {
      value("24 above 0", 2, 24, 2, 2, 2, 2, 1);
      value("at 0", 2, 0, 2, 2, 2, 2, 2);
      value("24 below 0", 2, 0, 3, 2, 2, 2, 2);
      value("far below 0", 0, 0, 6);
      value("24 below the maximum", 18, 2376, -2, -2, -2, -2, -1);
      value("at the maximum", 18, 2400, -2, -2, -2, -2, -2);
      value("24 above the maximum", 18, 2400, -3, -2, -2, -2, -2);
      value("far above the maximum", 20, 2400, -6);
      value("no correction at 0", 0, 0);
      value("no correction at the maximum", 20, 2400);
      gives("the maximum of this question", x -> {
        x.setMaximum(0, 1);
        x.setMaximum(1, 40);
        deviate(x, 0, 1, -2);
        x.enter(0, 0, 1, 39);
      }, x -> x.entry(0, 1, 0, 2), 4800);
    });
  }

  // Promise 13

  private static void scripts() {
    Consumer<ExamMarker> corners = x -> {
      x.enter(1, 0, 0, 2);
      x.enter(2, 7, 0, 3);
      x.enter(3, 0, 4, 4);
    };
    test(13, "- `candidate`: the candidate", () -> gives("the last", corners, x -> x.script(7, 0, 1), 1));
    test(13, "- `question`: the question", () -> gives("the last", corners, x -> x.script(0, 4, 1), 1));
    test(13, "if there is no such candidate or question", () -> {
      range(INDEX, 0, 7, corners, (x, n) -> x.script(n, 0, 0), 240, 360);
      range(INDEX, 0, 4, corners, (x, n) -> x.script(0, n, 0), 240, 480);
    });
    test(13, "if what is not from 0 to 4", () ->
        range(ARGUMENT, 0, 4, corners, (x, n) -> x.script(0, 4, n), 480, 0));
    test(13, "- `what`: 0 for the settled mark in units, 1 for the number of entries, 2 for the number of valid "
        + "ones, 3 for 0 if it is settled, 1 if it is missing, 2 if it is disputed, 4 for 0 without an appeal, 1 "
        + "with an open one, 2 with a remark that does not count, 3 with one that counts", () -> {
      Consumer<ExamMarker> three = entered(APART).andThen(x -> suspend(x, 2, 0));
      gives("entries", three, x -> x.script(0, 0, 1), 3);
      gives("valid ones", three, x -> x.script(0, 0, 2), 2);
      gives("disputed", three, x -> x.script(0, 0, 3), 2);
      gives("missing", NOTHING, x -> x.script(0, 0, 3), 1);
      gives("settled", TENS, x -> x.script(0, 0, 3), 0);
      gives("no appeal", PUBLISHED, x -> x.script(0, 4, 4), 0);
      Consumer<ExamMarker> open = PUBLISHED.andThen(x -> x.appeal(0, 4));
      gives("open", open, x -> x.script(0, 4, 4), 1);
      gives("does not count", open.andThen(x -> x.remark(1, 0, 4, 13)), x -> x.script(0, 4, 4), 2);
      gives("counts", open.andThen(x -> x.remark(1, 0, 4, 14)), x -> x.script(0, 4, 4), 3);
    });
  }

  private static void settled(String what, Consumer<ExamMarker> setup, int due, int standing) {
    gives(what + ": settled mark", setup, x -> x.script(0, 0, 0), due);
    gives(what + ": standing", setup, x -> x.script(0, 0, 3), standing);
  }

  private static Consumer<ExamMarker> without(int... markers) {
    return x -> {
      for (int marker : markers) {
        suspend(x, marker, 0);
      }
    };
  }

  private static void settledMarks() {
    test(13, "A script without a valid entry is missing, and its settled mark is 0.", () -> {
      settled("no entry", NOTHING, 0, 1);
      settled("one that is not valid", entered(20).andThen(without(0)), 0, 1);
      settled("two that are not valid", entered(20, 19).andThen(without(0, 1)), 0, 1);
      settled("three that are not valid", entered(APART).andThen(without(0, 1, 2)), 0, 1);
    });
    test(13, "With one valid entry it is the value of this one.", () -> {
      settled("0", entered(0), 0, 0);
      settled("20", entered(20), 2400, 0);
      settled("the first of two", entered(5, 20).andThen(without(1)), 600, 0);
      settled("the second of two", entered(5, 20).andThen(without(0)), 2400, 0);
      settled("the last of three", entered(APART).andThen(without(0, 1)), 1200, 0);
    });
    test(13, "With two valid ones that agree it is half of their sum; with two that do not agree the script is "
        + "disputed, and it is the lesser value.", () -> {
      settled("at the tolerance", entered(10, 13), 1380, 0);
      settled("beyond it", entered(10, 14), 1200, 2);
      settled("beyond it, the lesser is the second", entered(14, 10), 1200, 2);
      settled("the last two of three, at the tolerance", entered(0, 10, 13).andThen(without(0)), 1380, 0);
      settled("the last two of three, beyond it", entered(0, 10, 14).andThen(without(0)), 1200, 2);
      settled("the first and the last, at the tolerance", entered(10, 0, 13).andThen(without(1)), 1380, 0);
      settled("the first two of three, beyond it", entered(APART).andThen(without(2)), 0, 2);
    });
    test(13, "If the script has a remark that counts, it is the mark of the remark times 120, and the script is "
        + "neither missing nor disputed.", () -> {
      Consumer<ExamMarker> excused = x -> {
        fill(x, 0, 0, 10, 10, 10, 10, 10);
        x.excuse(0, 0, true);
      };
      Consumer<ExamMarker> open = x -> {
        x.publish();
        x.appeal(0, 0);
      };
      Consumer<ExamMarker> missing = excused.andThen(x -> suspend(x, 0, 0)).andThen(open);
      Consumer<ExamMarker> disputed = excused.andThen(x -> x.enter(1, 0, 0, 20)).andThen(open);
      settled("missing, not counted", missing.andThen(x -> x.remark(3, 0, 0, 3)), 0, 1);
      settled("missing, counted", missing.andThen(x -> x.remark(3, 0, 0, 4)), 480, 0);
      settled("disputed, not counted", disputed.andThen(x -> x.remark(3, 0, 0, 13)), 1200, 2);
      settled("disputed, counted", disputed.andThen(x -> x.remark(3, 0, 0, 14)), 1680, 0);
      settled("disputed, 0 counted", disputed.andThen(x -> x.remark(3, 0, 0, 0)), 0, 0);
    });
  }

  /** Three entries that are valid, of which the first two agree only if the tolerance is made greater. */
  private static void third(String what, int first, int second, int third, int tolerance, int due) {
    settled(what, x -> {
      x.set(2, 0);
      entered(first, second, third).accept(x);
      x.set(2, tolerance);
    }, due, 0);
  }

  /** A third value of 840 units, behind values that the corrections bring nearer to it or further away. */
  private static void thirdOfCorrected(String what, int times24, int times30, int first, int second, int nearer) {
    Consumer<ExamMarker> setup = corrected(times24, times30).andThen(entered(first, second, 7));
    settled(what, setup, (840 + nearer) / 2, 0);
  }

  private static void thirdMarks() {
    test(13, "With three valid ones, if the first two of these agree, it is half of their sum", () -> {
      third("at the tolerance", 10, 13, 13, 3, 1380);
      third("beyond it", 10, 14, 14, 3, 1680);
      third("at the tolerance, downwards", 13, 10, 10, 3, 1380);
      third("at no tolerance, beyond it", 10, 11, 11, 0, 1320);
      third("at the greatest", 0, 10, 20, 10, 600);
      third("beyond the greatest", 0, 11, 20, 10, 1860);
    });
    test(13, "otherwise half of the sum of the third and that of the first two which is nearer to it, of two "
        + "equally near ones the greater", () -> {
      third("equally near", 0, 20, 10, 3, 1800);
      third("equally near, the greater first", 20, 0, 10, 3, 1800);
      third("a point nearer to the lesser", 0, 20, 9, 3, 540);
      third("a point nearer to the greater", 0, 20, 11, 3, 1860);
      third("a point nearer to the lesser, the greater first", 20, 0, 9, 3, 540);
      third("a point nearer to the greater, the greater first", 20, 0, 11, 3, 1860);
      third("below both", 5, 15, 0, 3, 300);
      third("above both", 5, 15, 20, 3, 2100);
      third("as great as the lesser", 5, 15, 5, 3, 600);
      third("as great as the greater", 5, 15, 15, 3, 1800);
      thirdOfCorrected("6 units nearer to the greater", 1, 1, 10, 4, 1224);
      thirdOfCorrected("6 units nearer to the greater, the lesser first", 1, 1, 4, 10, 1170);
      thirdOfCorrected("6 units nearer to the lesser", 4, 3, 10, 4, 390);
      thirdOfCorrected("6 units nearer to the lesser, the lesser first", 4, 3, 4, 10, 576);
      thirdOfCorrected("equally near with corrections", 5, 4, 10, 4, 1320);
      thirdOfCorrected("equally near with corrections, the lesser first", 5, 4, 4, 10, 1080);
      settled("the third of three valid ones is not the third entry", x -> {
        x.enter(0, 0, 0, 0);
        x.enter(1, 0, 0, 20);
        x.enter(2, 0, 0, 10);
        suspend(x, 2, 0);
      }, 0, 2);
    });
  }
}
