import java.io.IOException;
import java.lang.reflect.Constructor;
import java.lang.reflect.Field;
import java.lang.reflect.Method;
import java.lang.reflect.Modifier;
import java.nio.charset.StandardCharsets;
import java.nio.file.Files;
import java.nio.file.Path;
import java.util.Set;
import java.util.StringJoiner;
import java.util.TreeSet;
import java.util.regex.Matcher;
import java.util.regex.Pattern;

/** The face of the class as the document has it, and those rules of LANGUAGE.md that can be seen from outside. */
public final class FaceTest {
  private static final String[] FACE = {
      "int setMaximum(int,int) Index Argument Unsupported State",
      "int set(int,int) Index Argument Unsupported",
      "int addSeed(int,int) Index Argument Unsupported State",
      "int markSeed(int,int,int,int) Index Argument Unsupported State",
      "int correction(int,int) Index",
      "boolean isSuspended(int,int) Index",
      "int enter(int,int,int,int) Index Argument Unsupported",
      "int append(int) Argument State",
      "int sheet() Argument Unsupported",
      "int errorPosition()",
      "int entry(int,int,int,int) Index Element Argument",
      "int script(int,int,int) Index Argument",
      "boolean excuse(int,int,boolean) Index Unsupported State",
      "int raise(int,int) Index Argument Unsupported",
      "int setPoint(int,int) Argument Unsupported State",
      "int removePoint(int) Unsupported Element",
      "int curve(int) Argument",
      "int setBoundary(int,int) Index Argument Unsupported",
      "long result(int,int) Index Argument Element",
      "int recount(int) Index",
      "int ranked(int) Element",
      "int graded(int) Index",
      "int gradeIf(int,int,int) Index Argument Element",
      "int needed(int,int,int) Index Element",
      "long meanBits(int) Index Arithmetic",
      "int validBits(int) Index Arithmetic",
      "int publish() State Unsupported",
      "int withdraw() State Unsupported",
      "int appeal(int,int) Index Unsupported",
      "int remark(int,int,int,int) Index Argument Unsupported",
      "int account(int) Argument",
      "int levels()",
      "int report(int,int) Element Argument",
      "int count(int) Argument",
      "int undo() State",
      "int save()",
      "int restore() State"};

  public static void main(String[] args) throws IOException {
    face();
    noOtherMembers();
    sizes();
    String source = Files.readString(Path.of("src/main/java/ExamMarker.java"), StandardCharsets.ISO_8859_1);
    source(source);
    declarations(source, Files.readString(Path.of("../shared/DOC.md")));
    Check.end();
  }

  private static String shortName(Class<?> exception) {
    return exception.getSimpleName().replaceAll("^(Illegal|NoSuch)|(OutOfBounds|Operation)?Exception$", "");
  }

  private static String signature(Method method) {
    StringJoiner types = new StringJoiner(",");
    for (Class<?> type : method.getParameterTypes()) {
      types.add(type.getName());
    }
    StringBuilder text = new StringBuilder();
    text.append(method.getReturnType()).append(' ').append(method.getName()).append('(').append(types).append(')');
    for (Class<?> exception : method.getExceptionTypes()) {
      text.append(' ').append(shortName(exception));
    }
    return text.toString();
  }

  private static void face() {
    Set<String> due = new TreeSet<>(Set.of(FACE));
    Set<String> got = new TreeSet<>();
    for (Method method : ExamMarker.class.getDeclaredMethods()) {
      if (Modifier.isPublic(method.getModifiers())) {
        got.add(signature(method));
        Check.equal(method.getName() + " is static", Modifier.isStatic(method.getModifiers()), false);
      }
    }
    Check.equal("the face", got, due);
    Check.equal("the class", ExamMarker.class.getModifiers(), Modifier.PUBLIC | Modifier.FINAL);
    Constructor<?>[] constructors = ExamMarker.class.getDeclaredConstructors();
    Check.equal("constructors", constructors.length, 1);
    Check.equal("the constructor", constructors[0].toString(), "public ExamMarker()");
  }

  private static void noOtherMembers() {
    Set<String> names = new TreeSet<>();
    for (Method method : ExamMarker.class.getMethods()) {
      names.add(method.getName());
    }
    for (Method method : ExamMarker.class.getDeclaredMethods()) {
      int modifiers = method.getModifiers();
      if (!Modifier.isPublic(modifiers)) {
        Check.equal(method + " is private", Modifier.isPrivate(modifiers), true);
        Check.equal(method + " bears a public name", names.contains(method.getName()), false);
      }
    }
    for (Field field : ExamMarker.class.getDeclaredFields()) {
      Check.equal(field + " is private", Modifier.isPrivate(field.getModifiers()), true);
    }
    for (Class<?> inside : ExamMarker.class.getDeclaredClasses()) {
      int modifiers = inside.getModifiers();
      Check.equal(inside + " is static", Modifier.isStatic(modifiers), true);
      Check.equal(inside + " is open", Modifier.isPublic(modifiers) || Modifier.isProtected(modifiers), false);
      Check.equal(inside + " has classes inside", inside.getDeclaredClasses().length, 0);
    }
  }

  private static void sizes() {
    Class<?>[] inside = ExamMarker.class.getDeclaredClasses();
    Check.equal("at most twelve classes", inside.length + 1 <= 12, true);
    Class<?>[] all = java.util.Arrays.copyOf(inside, inside.length + 1);
    all[inside.length] = ExamMarker.class;
    for (Class<?> type : all) {
      int fields = 0;
      for (Field field : type.getDeclaredFields()) {
        boolean isStatic = Modifier.isStatic(field.getModifiers());
        fields += isStatic ? 0 : 1;
        Check.equal(field + " is final if static", !isStatic || Modifier.isFinal(field.getModifiers()), true);
      }
      Check.equal(type + " has at most twenty fields", fields <= 20, true);
      for (Method method : type.getDeclaredMethods()) {
        Check.equal(method + " has at most seven parameters", method.getParameterCount() <= 7, true);
      }
    }
  }

  /** Each declaration of the public face, and each signature of a promise, is in the source, its names included. */
  private static void declarations(String source, String document) {
    String text = source.replaceAll("\\s+", " ");
    Matcher matcher = Pattern.compile("(?m)^    (public .*);$|^`([A-Za-z].*)`$").matcher(document);
    int found = 0;
    while (matcher.find()) {
      String declaration = matcher.group(1) != null ? matcher.group(1) : "public " + matcher.group(2);
      String due = declaration.replace("java.util.", "") + " {";
      Check.equal(due + " is in the source", text.contains(due), true);
      found++;
    }
    Check.equal("declarations in the document", found, 2 * (FACE.length + 1));
  }

  private static void source(String text) {
    Check.equal("signs from 1 to 127", text.chars().allMatch(c -> c >= 1 && c <= 127), true);
    Check.equal("a package line", Pattern.compile("(?m)^package").matcher(text).find(), false);
    Set<String> imports = new TreeSet<>();
    Matcher matcher = Pattern.compile("(?m)^import (.*);").matcher(text);
    while (matcher.find()) {
      imports.add(matcher.group(1));
    }
    Check.equal("imports", imports, new TreeSet<>(Set.of("java.util.Arrays", "java.util.NoSuchElementException")));
    String code = text.replaceAll("(?s)/\\*.*?\\*/", "").replaceAll("//.*", "");
    String bare = code.replaceAll("\"[^\"]*\"", "\"\"");
    String banned = "->|::|Exact\\(|static\\s*\\{"
        + "|\\b(try|catch|finally|assert|synchronized|instanceof|Double|Float|Random)\\b";
    Matcher found = Pattern.compile(banned).matcher(bare);
    Check.equal("something banned in the code", found.find() ? found.group() : "", "");
    Check.equal("texts joined by +", Pattern.compile("\"\\s*\\+|\\+\\s*\"").matcher(bare).find(), false);
    int longest = 0;
    int lines = 0;
    for (String line : code.split("\n")) {
      lines = line.matches("  (  )?[^ }].*\\{") ? 0 : lines + 1;
      longest = line.matches("  (  )?\\}") ? Math.max(longest, lines) : longest;
    }
    Check.equal("methods of at most sixty lines", longest <= 60, true);
  }
}
