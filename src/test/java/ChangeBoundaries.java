import java.util.EnumSet;
import java.util.function.Consumer;

/** Boundaries of counts, of undo and of what was saved: promises 35 to 38. */
final class ChangeBoundaries extends Boundary {
  /** Something of everything that can be changed before the publication. */
  private static final Consumer<ExamMarker> SOMETHING = x -> {
    maxima(x, 25, 30, 20, 15, 40);
    x.addSeed(1, 10);
    x.markSeed(2, 1, 0, 12);
    x.setPoint(10, 20);
    x.setPoint(90, 95);
    fill(x, 0, 3, 10, 11, 12, 13, 14);
    fill(x, 2, 3, 12, 11);
    x.excuse(5, 2, true);
    x.raise(3, 4);
    x.set(4, 17);
    x.setBoundary(3, 35);
  };

  /** Only the last three calls of the setup can still be taken back. */
  private static final Consumer<ExamMarker> FEW = SOMETHING.andThen(x -> {
    for (int i = 0; i < 3; i++) {
      x.undo();
    }
  });

  private ChangeBoundaries() {
  }

  static void run() {
    counts();
    emptyAndFullCounts();
    changes();
    changesThatStand();
    lastSix();
    whatUndoLeaves();
    saving();
    restoring();
    unchanged();
  }

  // Promise 35

  private static void counts() {
    Consumer<ExamMarker> all = SOMETHING.andThen(x -> {
      x.enter(1, 7, 4, 0);
      x.enter(2, 7, 4, 30);
      x.append(0x78787878);
    });
    test(35, "if what is not from 0 to 9", () -> range(ARGUMENT, 0, 9, all, (x, n) -> x.count(n), 9, 1));
    test(35, "- `what`: 0 for entries, 1 for candidates with a grade, 2 for seeds, 3 for marks of seeds, 4 for "
        + "points of the curve, 5 for 1 if the results are published, otherwise 0, 6 for the full maximum, 7 for "
        + "characters in the buffer, 8 for changes that can be taken back, 9 for disputed scripts of questions "
        + "that are not excused", () -> {
      int[] due = {9, 2, 1, 1, 2, 0, 130, 4, 6, 1};
      for (int i = 0; i < 10; i++) {
        int what = i;
        gives("what " + i, all, x -> x.count(what), due[i]);
      }
      gives("published", PUBLISHED, x -> x.count(5), 1);
    });
  }

  private static void emptyAndFullCounts() {
    test(35, "Returns a count.", () -> {
      for (int i = 0; i < 10; i++) {
        int what = i;
        gives("at first, " + i, NOTHING, x -> x.count(what), i == 6 ? 100 : 0);
      }
      Consumer<ExamMarker> entries = x -> {
        for (int slot = 0; slot < 120; slot++) {
          x.enter(slot % 3, slot / 15, slot / 3 % 5, slot % 3 * 5);
        }
      };
      gives("all entries", entries, x -> x.count(0), 120);
      gives("all candidates", entries, x -> x.count(1), 8);
      Consumer<ExamMarker> disputed = x -> {
        for (int slot = 0; slot < 80; slot++) {
          x.enter(slot % 2, slot / 10, slot / 2 % 5, slot % 2 * 20);
        }
      };
      gives("all disputed", disputed, x -> x.count(9), 40);
      gives("all disputed but for an excused one", disputed.andThen(x -> x.excuse(7, 4, true)), x -> x.count(9), 39);
      gives("all disputed but for a suspended marker", disputed.andThen(x -> suspend(x, 1, 0)), x -> x.count(9), 32);
      gives("disputed beyond the tolerance", x -> {
        x.enter(0, 0, 0, 10);
        x.enter(1, 0, 0, 14);
        x.enter(0, 7, 4, 10);
        x.enter(1, 7, 4, 13);
      }, x -> x.count(9), 1);
      Consumer<ExamMarker> seeds = x -> {
        for (int i = 0; i < 25; i++) {
          x.addSeed(i / 5, i % 5);
          for (int marker = 0; marker < 4; marker++) {
            x.markSeed(marker, i / 5, i % 5, 0);
          }
        }
      };
      gives("all seeds", seeds, x -> x.count(2), 25);
      gives("all marks of seeds", seeds, x -> x.count(3), 100);
    });
  }

  // Promise 36

  /** A call that is a change: it counts as one, and undo takes it back wholly. */
  private static void changed(String what, Consumer<ExamMarker> setup, Call change) {
    int before = made(setup).count(8);
    gives(what + ": changes", setup.andThen(x -> answer(x, change)), x -> x.count(8), before + 1);
    gives(what + ": changes after undo", setup.andThen(x -> answer(x, change)), ExamMarker::undo, before);
    same(what + ": undo", setup, setup.andThen(x -> answer(x, change)).andThen(ExamMarker::undo));
  }

  private static void changes() {
    test(36, "The changes are the calls without an exception of setMaximum, set, addSeed, markSeed, enter, sheet, "
        + "excuse, raise, setPoint, removePoint, setBoundary, publish, withdraw, appeal, remark and restore.", () -> {
      changed("setMaximum", FEW, x -> x.setMaximum(1, 40));
      changed("setMaximum to the same", FEW, x -> x.setMaximum(1, 30));
      for (int i = 0; i < 5; i++) {
        int what = i;
        changed("set " + i, FEW, x -> x.set(what, 5));
      }
      changed("set to the same", FEW, x -> x.set(0, 1));
      changed("addSeed", FEW, x -> x.addSeed(1, 3));
      changed("markSeed", FEW, x -> x.markSeed(0, 1, 0, 30));
      changed("enter", FEW, x -> x.enter(3, 3, 4, 0));
      changed("excuse", FEW, x -> x.excuse(3, 1, true));
      changed("excuse to the same", FEW, x -> x.excuse(5, 2, true));
      changed("raise", FEW, x -> x.raise(3, 10));
      changed("raise to the same", FEW, x -> x.raise(7, 0));
      changed("setPoint, a new one", FEW, x -> x.setPoint(50, 0));
      changed("setPoint, one that is there", FEW, x -> x.setPoint(90, 0));
      changed("removePoint", FEW, x -> x.removePoint(10));
      changed("setBoundary", FEW, x -> x.setBoundary(0, 99));
      changed("publish", FEW, ExamMarker::publish);
      Consumer<ExamMarker> published = FEW.andThen(ExamMarker::publish);
      changed("withdraw", published, ExamMarker::withdraw);
      changed("appeal", published, x -> x.appeal(3, 0));
      changed("set while published", published, x -> x.set(4, 98));
      Consumer<ExamMarker> open = published.andThen(x -> x.appeal(3, 0));
      changed("remark that counts", open, x -> x.remark(1, 3, 0, 25));
      changed("remark that does not count", open, x -> x.remark(1, 3, 0, 12));
      changed("restore", FEW.andThen(ExamMarker::save).andThen(x -> x.setMaximum(1, 40)), ExamMarker::restore);
      changed("restore of the same", FEW.andThen(ExamMarker::save), ExamMarker::restore);
      Consumer<ExamMarker> read = FEW.andThen(x -> Sheets.put(x, "3/4:3=0,6=40")).andThen(ExamMarker::sheet);
      gives("sheet: one change", read, x -> x.count(8), 4);
      same("sheet: undo", FEW, read.andThen(ExamMarker::undo));
    });
  }

  private static void stands(String what, Call call) {
    gives(what, FEW.andThen(x -> answer(x, call)), x -> x.count(8), 3);
  }

  private static void changesThatStand() {
    test(36, "the calls without an exception", () -> {
      stands("a refused setMaximum", x -> x.setMaximum(0, 41));
      stands("a refused set", x -> x.set(0, 6));
      stands("a refused addSeed", x -> x.addSeed(0, 26));
      stands("a refused markSeed", x -> x.markSeed(2, 1, 0, 12));
      stands("a refused enter", x -> x.enter(0, 3, 0, 1));
      stands("an empty sheet", ExamMarker::sheet);
      stands("a refused excuse", x -> x.excuse(8, 0, true));
      stands("a refused raise", x -> x.raise(0, 11));
      stands("a refused setPoint", x -> x.setPoint(201, 0));
      stands("a refused removePoint", x -> x.removePoint(11));
      stands("a refused setBoundary", x -> x.setBoundary(0, 60));
      stands("a refused withdraw", ExamMarker::withdraw);
      stands("a refused appeal", x -> x.appeal(3, 0));
      stands("a refused remark", x -> x.remark(1, 3, 0, 1));
      stands("a refused restore", ExamMarker::restore);
      stands("append", x -> x.append('0'));
      stands("save", ExamMarker::save);
      stands("a question", x -> x.needed(3, 0, 4));
      gives("a refused publish", FEW.andThen(x -> x.enter(0, 6, 0, 1)).andThen(x -> answer(x, ExamMarker::publish)),
          x -> x.count(8), 4);
      Consumer<ExamMarker> written = FEW.andThen(x -> Sheets.put(x, "0/0:6=1,3=1"));
      gives("a refused sheet", written.andThen(x -> answer(x, ExamMarker::sheet)), x -> x.count(8), 3);
    });
  }

  private static Consumer<ExamMarker> raised(int from, int to) {
    return x -> {
      for (int percent = from; percent <= to; percent++) {
        x.raise(0, percent);
      }
    };
  }

  private static Consumer<ExamMarker> undone(int times) {
    return x -> {
      for (int i = 0; i < times; i++) {
        x.undo();
      }
    };
  }

  private static void lastSix() {
    test(36, "if there is none", () -> {
      refuses("no change", STATE, NOTHING, ExamMarker::undo);
      refuses("one that was taken back", STATE, raised(1, 1).andThen(undone(1)), ExamMarker::undo);
      refuses("six that were taken back", STATE, raised(1, 6).andThen(undone(6)), ExamMarker::undo);
      refuses("a seventh is forgotten", STATE, raised(1, 7).andThen(undone(6)), ExamMarker::undo);
      gives("one", raised(1, 1), ExamMarker::undo, 0);
      gives("the last of six", raised(1, 6).andThen(undone(5)), ExamMarker::undo, 0);
    });
    test(36, "At most 6 of them can be taken back by undo; older ones are forgotten.", () -> {
      for (int size = 0; size <= 10; size++) {
        Consumer<ExamMarker> setup = raised(1, size);
        int left = Math.min(6, size);
        gives(size + " changes", setup, x -> x.count(8), left);
        for (int times = 1; times <= left; times++) {
          gives(times + " of " + size + ", left", setup.andThen(undone(times - 1)), ExamMarker::undo, left - times);
          gives(times + " of " + size, setup.andThen(undone(times)), x -> x.raise(0, 0), size - times);
        }
      }
    });
    test(36, "Takes back the latest change that was not taken back.", () -> {
      for (int times = 0; times <= 6; times++) {
        // Nine changes, some of them taken back, then new ones in their place.
        Consumer<ExamMarker> setup = raised(1, 9).andThen(undone(times)).andThen(x -> x.raise(0, 0));
        int left = Math.min(6, 7 - times);
        gives("one new after " + times, setup, x -> x.count(8), left);
        gives("the new one after " + times, setup.andThen(undone(1)), x -> x.raise(0, 0), 9 - times);
        gives("the last of all after " + times, setup.andThen(undone(left)), x -> x.raise(0, 0), times == 0 ? 4 : 3);
        refuses("no more after " + times, STATE, setup.andThen(undone(left)), ExamMarker::undo);
      }
      gives("two rounds", raised(1, 9).andThen(undone(6)).andThen(raised(4, 10)).andThen(undone(6)),
          x -> x.raise(0, 0), 4);
    });
    test(36, "Returns the number of changes that can still be taken back.", () -> {
      gives("five of six", raised(1, 6), ExamMarker::undo, 5);
      gives("five of seven", raised(1, 7), ExamMarker::undo, 5);
      gives("four of five", raised(1, 5), ExamMarker::undo, 4);
    });
  }

  private static void whatUndoLeaves() {
    test(36, "The buffer, the error position and the report stay as they are.", () -> {
      Consumer<ExamMarker> setup = x -> {
        Sheets.put(x, "0/0:0=1x");
        answer(x, ExamMarker::sheet);
        x.raise(0, 1);
        x.append('9');
        answer(x, y -> y.enter(0, 0, 0, 21));
      };
      Consumer<ExamMarker> undone = setup.andThen(ExamMarker::undo);
      gives("characters", undone, x -> x.count(7), 1);
      gives("error position", undone, ExamMarker::errorPosition, 7);
      reported("report", made(undone), 1, 0, 12, 20);
      gives("the character itself", undone.andThen(x -> answer(x, ExamMarker::sheet)), ExamMarker::errorPosition, 0);
      gives("characters of a sheet that was taken back", x -> {
        Sheets.put(x, "0/0:0=1");
        x.sheet();
        x.undo();
      }, x -> x.count(7), 0);
      gives("no error position of one that was taken back", x -> {
        Sheets.put(x, "0/0:0=1");
        x.sheet();
        x.undo();
      }, ExamMarker::errorPosition, -1);
    });
  }

  // Promises 37 and 38

  private static void saving() {
    test(37, "Saves everything but the buffer, the error position, the report and the changes, replacing what was "
        + "saved before.", () -> {
      Consumer<ExamMarker> twice = SOMETHING.andThen(ExamMarker::save).andThen(x -> {
        x.enter(3, 7, 4, 1);
        x.save();
        x.enter(3, 6, 4, 1);
      });
      gives("the second time", twice, ExamMarker::restore, 8);
      gives("the entry before it", twice.andThen(ExamMarker::restore), x -> x.script(7, 4, 1), 1);
      gives("the entry behind it", twice.andThen(ExamMarker::restore), x -> x.script(6, 4, 1), 0);
      Consumer<ExamMarker> text = SOMETHING.andThen(x -> {
        x.append('0');
        x.save();
        x.append('0');
        answer(x, y -> y.enter(0, 0, 0, 99));
        x.restore();
      });
      gives("characters", text, x -> x.count(7), 2);
      reported("report", made(text), 1, 0, 12, 25);
      gives("error position", x -> {
        x.save();
        answer(x, ExamMarker::sheet);
        x.restore();
      }, ExamMarker::errorPosition, 0);
      gives("changes", x -> {
        x.save();
        x.raise(0, 1);
        x.restore();
      }, x -> x.count(8), 2);
    });
    test(37, "Returns the number of entries.", () -> {
      gives("none", NOTHING, ExamMarker::save, 0);
      gives("one", x -> x.enter(0, 7, 4, 0), ExamMarker::save, 1);
      gives("seven", SOMETHING, ExamMarker::save, 7);
      gives("all", x -> {
        for (int slot = 0; slot < 120; slot++) {
          x.enter(slot % 3, slot / 15, slot / 3 % 5, slot % 3 * 5);
        }
      }, ExamMarker::save, 120);
    });
  }

  /** Brings back what was saved after a change; but for the changes themselves, all is as it was. */
  private static void broughtBack(String what, Consumer<ExamMarker> setup, Call change) {
    Consumer<ExamMarker> saved = setup.andThen(ExamMarker::save);
    Consumer<ExamMarker> due = saved.andThen(ExamMarker::restore);
    Consumer<ExamMarker> restored = saved.andThen(x -> answer(x, change)).andThen(ExamMarker::restore);
    // Some parts can be read only before the publication, so that the changes before it would have to be the same.
    EnumSet<Probe.Part> early =
        EnumSet.of(Probe.Part.SETTINGS, Probe.Part.SEEDS, Probe.Part.POINTS, Probe.Part.SAVED);
    EnumSet<Probe.Part> others = EnumSet.complementOf(early);
    others.remove(Probe.Part.CHANGES);
    same(what, due, restored, others);
    if (made(setup).count(5) == 0) {
      same(what, due, restored, early);
    }
  }

  private static void restoring() {
    test(38, "if nothing was saved", () -> {
      refuses("nothing", STATE, SOMETHING, ExamMarker::restore);
      refuses("nothing, twice", STATE, SOMETHING.andThen(x -> answer(x, ExamMarker::restore)), ExamMarker::restore);
      gives("an object without entries", ExamMarker::save, ExamMarker::restore, 0);
      Consumer<ExamMarker> undone = raised(1, 1).andThen(ExamMarker::save).andThen(undone(1));
      gives("saved before an undo", undone, ExamMarker::restore, 0);
    });
    test(38, "Restores what was saved; it stays saved.", () -> {
      Consumer<ExamMarker> saved = SOMETHING.andThen(ExamMarker::save);
      gives("once", saved.andThen(x -> x.enter(3, 7, 4, 1)), ExamMarker::restore, 7);
      gives("twice", saved.andThen(x -> {
        x.enter(3, 7, 4, 1);
        x.restore();
        x.enter(3, 7, 4, 1);
      }), ExamMarker::restore, 7);
      gives("after an undo of the restore", saved.andThen(x -> {
        x.enter(3, 7, 4, 1);
        x.restore();
        x.undo();
      }), ExamMarker::restore, 7);
      broughtBack("maximum", SOMETHING, x -> x.setMaximum(4, 39));
      for (int i = 0; i < 5; i++) {
        int what = i;
        broughtBack("setting " + i, SOMETHING, x -> x.set(what, 5));
      }
      broughtBack("seed", SOMETHING, x -> x.addSeed(1, 0));
      broughtBack("mark of a seed", SOMETHING, x -> x.markSeed(3, 1, 0, 0));
      broughtBack("entry", SOMETHING, x -> x.enter(3, 3, 4, 40));
      broughtBack("excused", SOMETHING, x -> x.excuse(5, 2, false));
      broughtBack("raise", SOMETHING, x -> x.raise(3, 0));
      broughtBack("point", SOMETHING, x -> x.setPoint(90, 0));
      broughtBack("removed point", SOMETHING, x -> x.removePoint(10));
      broughtBack("boundary", SOMETHING, x -> x.setBoundary(0, 100));
      broughtBack("not published", SOMETHING, ExamMarker::publish);
      broughtBack("published", PUBLISHED, ExamMarker::withdraw);
      broughtBack("no appeal", PUBLISHED, x -> x.appeal(0, 4));
      broughtBack("open appeal", PUBLISHED.andThen(x -> x.appeal(0, 4)), x -> x.remark(1, 0, 4, 20));
      Consumer<ExamMarker> remarked = PUBLISHED.andThen(x -> x.appeal(0, 4)).andThen(x -> x.remark(1, 0, 4, 20));
      broughtBack("remark", remarked, ExamMarker::undo);
      broughtBack("remark, another one in its place", remarked, x -> {
        x.undo();
        return x.remark(2, 0, 4, 19);
      });
      broughtBack("appeal, another one in its place", PUBLISHED.andThen(x -> x.appeal(0, 4)), x -> {
        x.undo();
        x.set(4, 29);
        return x.appeal(0, 4);
      });
      broughtBack("definitive mark, another one in its place", SOMETHING.andThen(x -> x.addSeed(1, 9)), x -> {
        x.undo();
        return x.addSeed(1, 8);
      });
      broughtBack("mark of a seed, another one in its place", SOMETHING.andThen(x -> x.markSeed(3, 1, 0, 9)), x -> {
        x.undo();
        return x.markSeed(3, 1, 0, 8);
      });
      broughtBack("entry, another one in its place", SOMETHING.andThen(x -> x.enter(0, 6, 4, 9)), x -> {
        x.undo();
        return x.enter(1, 7, 4, 8);
      });
      broughtBack("entry, one of the same script in its place", SOMETHING.andThen(x -> x.enter(0, 6, 4, 9)), x -> {
        x.undo();
        return x.enter(1, 6, 4, 8);
      });
    });
    test(38, "Returns the number of entries.", () -> {
      gives("none", ExamMarker::save, ExamMarker::restore, 0);
      gives("seven", SOMETHING.andThen(ExamMarker::save), ExamMarker::restore, 7);
    });
  }

  private static void unchanged() {
    test(36, "A method that throws an exception leaves the state unchanged, unless its description says "
        + "otherwise.", () -> {
      Consumer<ExamMarker> six = SOMETHING.andThen(x -> {
        x.save();
        x.append('3');
      });
      refuses("setMaximum", STATE, six, x -> x.setMaximum(4, 13));
      refuses("set", ARGUMENT, six, x -> x.set(2, 11));
      refuses("addSeed", ARGUMENT, six, x -> x.addSeed(4, 41));
      refuses("markSeed", STATE, six, x -> x.markSeed(2, 1, 0, 13));
      reports("enter", six, x -> x.enter(3, 3, 0, 1), 1, 0, 15, 0);
      refuses("append", ARGUMENT, six, x -> x.append(0x30303020));
      refuses("excuse", INDEX, six, x -> x.excuse(0, 5, true));
      refuses("raise", ARGUMENT, six, x -> x.raise(0, 11));
      refuses("setPoint", ARGUMENT, six, x -> x.setPoint(10, 101));
      refuses("removePoint", NONE, six, x -> x.removePoint(11));
      refuses("setBoundary", ARGUMENT, six, x -> x.setBoundary(3, 50));
      reports("publish", six.andThen(x -> x.enter(0, 1, 0, 1)), ExamMarker::publish, 2, 1, 21, 1);
      refuses("withdraw", STATE, six, ExamMarker::withdraw);
      reports("appeal", six, x -> x.appeal(3, 0), 3, 3, 31, 0);
      reports("remark", six, x -> x.remark(1, 3, 0, 1), 4, 3, 41, 0);
      refuses("gradeIf", ARGUMENT, six, x -> x.gradeIf(3, 0, 26));
      refuses("needed", NONE, six, x -> x.needed(0, 0, 0));
      refuses("ranked", NONE, six, x -> x.ranked(1));
      refusesSheet("sheet", SOMETHING, "3/4:7=1,6=41", 1, 1, 12, 40);
      misreads("sheet with an error", SOMETHING, "3/4:7=1,6=4,", 12);
    });
  }
}
