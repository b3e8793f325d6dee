import java.io.IOException;
import java.nio.charset.StandardCharsets;
import java.nio.file.Files;
import java.nio.file.Path;
import java.nio.file.StandardCopyOption;
import java.util.ArrayList;
import java.util.List;
import java.util.TreeSet;
import java.util.regex.Matcher;
import java.util.regex.Pattern;
import java.util.stream.Stream;

/** README.md: its program compiles and answers as it says, and it names every call and every test. */
public final class ReadmeTest {
  private static final String PROGRAM = "src/main/java/ExamMarker.java";
  private static final Path ROOM = Path.of("build/readme");

  private ReadmeTest() {
  }

  public static void main(String[] args) throws IOException, InterruptedException {
    String readme = Files.readString(Path.of("README.md"));
    example(block(readme, "java"), block(readme, "sh"));
    calls(readme, Files.readString(Path.of("../shared/DOC.md")));
    tests(readme);
    Check.end();
  }

  /** The first block of a kind. */
  private static String block(String readme, String kind) {
    Matcher matcher = Pattern.compile("(?s)```" + kind + "\n(.*?)```").matcher(readme);
    boolean found = matcher.find();
    Check.equal("a block of " + kind, found, true);
    return found ? matcher.group(1) : "";
  }

  private static void example(String program, String commands) throws IOException, InterruptedException {
    List<String> due = new ArrayList<>();
    List<String> calls = new ArrayList<>();
    Matcher matcher = Pattern.compile("show\\((.*)\\);\\s+// (-?\\w+)(:.*)?").matcher(program);
    while (matcher.find()) {
      calls.add(matcher.group(1));
      due.add(matcher.group(2));
    }
    List<String> got = run(program, commands);
    Check.equal("lines that the program writes", got.size(), program.split("show\\(marker").length - 1);
    Check.equal("calls with an answer", calls.size(), got.size());
    for (int i = 0; i < due.size() && i < got.size(); i++) {
      Check.equal(calls.get(i) + " in README.md", due.get(i), got.get(i));
    }
  }

  /** Runs the program in a directory of its own, by the commands that README.md gives. */
  private static List<String> run(String program, String commands) throws IOException, InterruptedException {
    Path source = ROOM.resolve(PROGRAM);
    Files.createDirectories(source.getParent());
    Files.copy(Path.of(PROGRAM), source, StandardCopyOption.REPLACE_EXISTING);
    Files.writeString(ROOM.resolve("MyProgram.java"), program);
    ProcessBuilder builder = new ProcessBuilder("sh", "-c", commands).directory(ROOM.toFile());
    Process process = builder.redirectErrorStream(true).start();
    String written = new String(process.getInputStream().readAllBytes(), StandardCharsets.UTF_8);
    int status = process.waitFor();
    Check.equal("the end of the program, which wrote " + (status == 0 ? "its answers" : written), status, 0);
    return written.lines().toList();
  }

  /** Each method of the face, with the names of its parameters, and no other. */
  private static void calls(String readme, String document) {
    TreeSet<String> due = new TreeSet<>();
    Matcher matcher = Pattern.compile("(?m)^    public \\w+ (\\w+)\\((.*?)\\)").matcher(document);
    while (matcher.find()) {
      due.add(matcher.group(1) + "(" + matcher.group(2).replaceAll("\\w+ (\\w+)", "$1") + ")");
    }
    TreeSet<String> got = new TreeSet<>();
    for (String line : readme.split("\n")) {
      Matcher named = Pattern.compile("`(\\w+\\([\\w, ]*\\))`").matcher(line.startsWith("| ") ? line : "");
      while (named.find()) {
        got.add(named.group(1));
      }
    }
    Check.equal("the calls", got, due);
  }

  private static void tests(String readme) throws IOException {
    Check.equal("how the tests are run", readme.contains("bash .ci/run"), true);
    try (Stream<Path> files = Files.list(Path.of("src/test/java"))) {
      for (Path file : files.toList()) {
        String name = file.getFileName().toString().replace(".java", "");
        boolean helper = name.equals("Check") || name.equals("Sheets");
        Check.equal(name + " is named", helper || readme.contains("`" + name + "`"), true);
      }
    }
  }
}
