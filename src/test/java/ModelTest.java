import java.lang.reflect.InvocationTargetException;
import java.lang.reflect.Method;
import java.util.Arrays;
import java.util.HashMap;
import java.util.Map;
import java.util.Random;
import java.util.TreeMap;
import java.util.TreeSet;

/**
 * Long runs of calls, always the same ones, whose answers must be those of the model; and every method must have
 * answered and thrown all that it can in them.
 */
public final class ModelTest {
  private static final int RUNS = 1500;
  private static final int CALLS = 512;
  private static final Map<String, Method> PROGRAM = methods(ExamMarker.class);
  private static final Map<String, Method> MODEL = methods(Model.class);
  private static final Map<String, TreeSet<String>> SEEN = new TreeMap<>();
  private static final String[] QUERIES = {"correction", "isSuspended", "errorPosition", "entry", "script", "curve",
      "result", "recount", "ranked", "graded", "gradeIf", "needed", "meanBits", "validBits", "account", "levels",
      "report", "count"};
  private static final String[] CHANGES = {"setMaximum", "set", "addSeed", "markSeed", "markSeed", "enter", "enter",
      "append", "sheet", "sheet", "excuse", "raise", "setPoint", "removePoint", "setBoundary", "publish", "withdraw",
      "appeal", "appeal", "remark", "remark", "remark", "undo", "save", "restore"};

  private final Random random;
  private final ExamMarker program = new ExamMarker();
  private final Model model = new Model();
  private final StringBuilder told = new StringBuilder();
  private final int candidates;
  private final boolean strict;
  private int calls;
  private boolean wrong;

  private ModelTest(int run) {
    random = new Random(run);
    candidates = 1 + random.nextInt(run % 3 == 0 ? 8 : 3);
    strict = run % 2 == 0;
  }

  public static void main(String[] args) {
    for (int run = 0; run < RUNS; run++) {
      boolean right = new ModelTest(run).go();
      Check.equal("run " + run + " as the model", right, true);
      if (!right) {
        break;
      }
    }
    allWasSeen();
    Check.end();
  }

  private static Map<String, Method> methods(Class<?> type) {
    Map<String, Method> methods = new HashMap<>();
    for (Method method : type.getDeclaredMethods()) {
      if (java.lang.reflect.Modifier.isPublic(method.getModifiers())) {
        methods.put(method.getName(), method);
      }
    }
    return methods;
  }

  private static String answer(Method method, Object object, Object[] arguments) {
    try {
      return String.valueOf(method.invoke(object, arguments));
    } catch (InvocationTargetException e) {
      Throwable cause = e.getCause();
      return object instanceof ExamMarker && Check.kind(cause) != cause.getClass()
          ? String.valueOf(Check.kind(cause))
          : cause.getClass().getName();
    } catch (IllegalAccessException e) {
      return e.toString();
    }
  }

  /** Makes one call on both, and tells the whole run if the answers differ. */
  private void call(String name, Object... arguments) {
    if (wrong || calls >= CALLS) {
      return;
    }
    calls++;
    String got = answer(PROGRAM.get(name), program, arguments);
    String due = answer(MODEL.get(name), model, arguments);
    told.append(name).append(Arrays.toString(arguments)).append(" -> ").append(got).append('\n');
    SEEN.computeIfAbsent(name, n -> new TreeSet<>()).add(got.startsWith("java.") ? got : "an answer");
    if (got.startsWith("java.lang.Unsupported") && model.levels() == 2) {
      SEEN.computeIfAbsent("code", n -> new TreeSet<>()).add(String.valueOf(model.report(1, 0)));
    }
    if (!got.equals(due)) {
      wrong = true;
      System.out.println(told + "due is " + due);
    }
  }

  private boolean go() {
    prepare();
    while (calls < CALLS && !wrong) {
      if (random.nextInt(40) == 0) {
        complete(random.nextInt(candidates));
      } else if (random.nextInt(12) == 0) {
        write();
      } else if (random.nextInt(3) == 0) {
        some(CHANGES[random.nextInt(CHANGES.length)]);
      } else {
        some(QUERIES[random.nextInt(QUERIES.length)]);
      }
    }
    return !wrong;
  }

  /** Some runs begin with results that can be published soon. */
  private void prepare() {
    if (random.nextInt(4) == 0) {
      for (int question = 0; question < 5; question++) {
        call("setMaximum", question, 1 + random.nextInt(40));
      }
    }
    for (int i = random.nextInt(12); i > 0; i--) {
      some(random.nextBoolean() ? "addSeed" : "markSeed");
    }
    if (strict) {
      for (int candidate = 0; candidate < candidates; candidate++) {
        complete(candidate);
      }
      call("publish");
    }
  }

  /** Enters what is missing, and third marks for what is disputed. */
  private void complete(int candidate) {
    for (int question = 0; question < 5; question++) {
      for (int marker = 0; marker < 4 && model.script(candidate, question, 3) != 0; marker++) {
        call("enter", marker, candidate, question, mark(question));
      }
      if (random.nextInt(8) == 0) {
        call("enter", random.nextInt(4), candidate, question, mark(question));
      }
    }
  }

  private int candidate() {
    return random.nextInt(30) == 0 ? random.nextInt(10) - 1 : random.nextInt(candidates);
  }

  /** A number from 0 to below the bound, and now and then one just outside or far outside. */
  private int number(int bound) {
    int chance = random.nextInt(60);
    if (chance == 0) {
      return random.nextBoolean() ? -1 : bound;
    }
    return chance == 1 && random.nextInt(8) == 0 ? random.nextInt() : random.nextInt(bound);
  }

  private int mark(int question) {
    int maximum = model.maximum(question);
    return random.nextInt(25) == 0 ? maximum + 1 : random.nextInt(maximum + 1);
  }

  private int marker() {
    return number(4);
  }

  private void write() {
    StringBuilder text = new StringBuilder();
    int question = random.nextInt(5);
    text.append(random.nextInt(4)).append('/').append(question).append(':');
    int entries = 1 + random.nextInt(random.nextInt(10) == 0 ? 14 : 3);
    for (int i = 0; i < entries; i++) {
      text.append(i == 0 ? "" : ",").append(random.nextInt(candidates)).append('=').append(mark(question));
    }
    String signs = "0123456789,,==//::~!x";
    for (int i = random.nextInt(12) - 9; i > 0; i--) {
      char sign = signs.charAt(random.nextInt(signs.length()));
      int at = random.nextInt(text.length());
      if (random.nextBoolean()) {
        text.setCharAt(at, sign);
      } else if (random.nextBoolean()) {
        text.insert(at, sign);
      } else {
        text.setLength(at + 1);
      }
    }
    for (int i = 0; i < text.length(); i += 4) {
      call("append", Sheets.packed(text.toString(), i));
    }
    if (random.nextInt(6) != 0) {
      call("sheet");
      call("errorPosition");
    }
  }

  private void some(String name) {
    int c = candidate();
    int q = number(5);
    int known = q >= 0 && q < 5 ? q : 0;
    switch (name) {
      case "setMaximum" -> call(name, q, number(3) == 0 ? number(42) : 20 + random.nextInt(21));
      case "set" -> {
        int what = number(5);
        call(name, what, number(what == 4 ? 100 : what == 1 ? 20 : what == 2 ? 11 : 6));
      }
      case "addSeed" -> call(name, q, mark(known));
      case "markSeed" -> call(name, marker(), q, number(3), Math.min(mark(known), random.nextInt(16)));
      case "enter" -> call(name, marker(), c, q, random.nextInt(50) == 0 ? -1 : mark(known));
      case "append" -> call(name, random.nextInt(3) == 0 ? random.nextInt() : 0x30 << 8 * random.nextInt(4));
      case "entry" -> call(name, c, q, number(3), number(4));
      case "script" -> call(name, c, q, number(5));
      case "excuse" -> call(name, c, q, random.nextBoolean());
      case "raise" -> call(name, c, number(11));
      case "setPoint" -> call(name, place(), number(101));
      case "removePoint", "curve" -> call(name, place());
      case "setBoundary" -> {
        int grade = number(4);
        call(name, grade, number(3) == 0 ? number(101) : 72 - 10 * grade + random.nextInt(17) - 8);
      }
      case "result" -> call(name, c, number(6));
      case "recount" -> call(name, c);
      case "ranked" -> call(name, number(candidates));
      case "graded" -> call(name, number(5));
      case "gradeIf" -> call(name, c, q, mark(known));
      case "needed" -> call(name, c, q, number(5));
      case "meanBits" -> call(name, q);
      case "validBits" -> call(name, marker());
      case "appeal" -> call(name, c, q);
      case "remark" -> call(name, marker(), c, q, random.nextInt(50) == 0 ? -1 : mark(known));
      case "account" -> call(name, number(9));
      case "report" -> call(name, number(2), number(2));
      case "count" -> call(name, number(10));
      case "correction", "isSuspended" -> call(name, marker(), q);
      case "withdraw", "restore", "undo", "save" -> {
        if (random.nextInt(3) == 0) {
          call(name);
        }
      }
      default -> call(name);
    }
  }

  private int place() {
    return random.nextInt(3) == 0 ? number(201) : 10 * number(12);
  }

  /** Each exception that a method declares, an answer of each, and each reason of a refusal. */
  private static void allWasSeen() {
    for (Method method : PROGRAM.values()) {
      TreeSet<String> due = new TreeSet<>();
      due.add("an answer");
      for (Class<?> exception : method.getExceptionTypes()) {
        due.add(exception.getName());
      }
      Check.equal("what " + method.getName() + " did", SEEN.get(method.getName()), due);
    }
    Check.equal("the reasons", SEEN.get("code"),
        new TreeSet<>(Arrays.asList("11 12 13 14 15 21 22 31 32 33 34 41 42 43".split(" "))));
  }
}
