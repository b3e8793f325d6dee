import java.io.IOException;
import java.nio.file.Files;
import java.nio.file.Path;
import java.util.ArrayList;
import java.util.List;

/**
 * A test for each sentence of the document that names a boundary, and for each that says what a method does or returns.
 * It also checks that each of them quotes the document, and that no sentence of the description or of a promise, no
 * parameter and no exception is left without a test.
 */
public final class BoundariesTest {
  private static final Path DOCUMENT = Path.of("../shared/DOC.md");
  private static final String SENTENCES = "(?<=\\.) (?=[A-Z])";

  /** Sentences that hold nothing to be tested: two of the description, and the names of groups of promises. */
  private static final List<String> NO_BOUNDARY = List.of("The class is not thread-safe.",
      "The constructor and the methods follow, a promise each: the signature, then what it does.",
      "Settings and seeds.", "Entries.", "Circumstances, curve, boundaries.", "Results.",
      "Publication and appeals.", "Reports, counts, undo, snapshots.");

  public static void main(String[] args) throws IOException {
    SeedBoundaries.run();
    EntryBoundaries.run();
    ResultBoundaries.run();
    AppealBoundaries.run();
    ChangeBoundaries.run();
    OrderBoundaries.run();
    PromiseSentences.run();
    quotes(Files.readString(DOCUMENT));
    Check.end();
  }

  private static String inOneLine(String text) {
    return text.replaceAll("\\s+", " ").trim();
  }

  private static void quotes(String document) {
    String text = inOneLine(document);
    for (Boundary.Named test : Boundary.tests()) {
      Check.equal("\"" + test.sentence() + "\" is in the document", text.contains(test.sentence()), true);
    }
    int description = document.indexOf("\n## Description");
    String[] promises = document.substring(document.indexOf("\n## Promise 1:")).split("\n## ");
    describe(document.substring(description, document.indexOf("\n## Promise 1:")));
    for (int promise = 1; promise <= 38; promise++) {
      describePromise(promise, promises[promise]);
    }
  }

  private static void describe(String description) {
    for (String paragraph : description.split("\n\n")) {
      for (String sentence : inOneLine(paragraph).split(SENTENCES)) {
        boolean bare = sentence.isEmpty() || sentence.startsWith("## ") || sentence.matches("[A-Z][a-z]+( marks)?\\.");
        if (!bare && !NO_BOUNDARY.contains(sentence)) {
          tested(sentence, Boundary.tests());
        }
      }
    }
  }

  private static void describePromise(int promise, String section) {
    List<Boundary.Named> own = new ArrayList<>(Boundary.tests());
    own.removeIf(test -> test.promise() != promise);
    Check.equal("promise " + promise + " has tests", own.isEmpty(), false);
    for (String paragraph : section.substring(section.indexOf('\n')).split("\n\n|\n(?=- `)|\n(?=#)")) {
      String text = inOneLine(paragraph);
      boolean whole = text.startsWith("- `") || text.startsWith("Throws");
      for (String sentence : whole ? new String[] {text} : text.split(SENTENCES)) {
        if (!sentence.isEmpty() && !sentence.startsWith("`") && !NO_BOUNDARY.contains(sentence)) {
          tested(sentence, own);
        }
      }
    }
  }

  private static void tested(String sentence, List<Boundary.Named> tests) {
    boolean found = false;
    for (Boundary.Named test : tests) {
      found |= sentence.contains(test.sentence()) || test.sentence().contains(sentence);
    }
    Check.equal("\"" + sentence + "\" has a test", found, true);
  }
}
