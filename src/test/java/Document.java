import java.io.IOException;
import java.nio.file.Files;
import java.nio.file.Path;
import java.util.ArrayList;
import java.util.Comparator;
import java.util.LinkedHashMap;
import java.util.List;
import java.util.Map;

/**
 * The document, sentence by sentence: a test says which sentence it holds the class against, and no sentence may be
 * left without a test.
 */
final class Document {
  private static final String NOT_PROMISED = "Not promised";
  /** What names something and asks nothing of the class. */
  private static final List<String> ONLY_NAMES = List.of("Laces, crossings", "Undo, the snapshot");

  private final Map<String, String> sections = new LinkedHashMap<>();
  private final Map<String, List<String>> quotes = new LinkedHashMap<>();
  private String heading = "";

  /** Without the file the tests still run, but what they say of the document is not looked up. */
  Document(Path file) throws IOException {
    if (!Files.isReadable(file)) {
      System.out.println("there is no document to look sentences up in: " + file);
      return;
    }
    boolean inCode = false;
    String section = "";
    for (String line : Files.readAllLines(file)) {
      if (line.startsWith("```")) {
        // the face, which RulesTests holds the class against
        inCode = !inCode;
      } else if (line.startsWith("#")) {
        section = line.replaceFirst("^#+ ", "");
        sections.put(section, "");
      } else if (!inCode && !ONLY_NAMES.contains(line)) {
        sections.merge(section, withoutFace(line) + "\n", String::concat);
      }
    }
    sections.remove(NOT_PROMISED);
  }

  /** "`int pull()`: Pulls at the ends" says "Pulls at the ends". */
  private static String withoutFace(String line) {
    return line.replaceFirst("^`[^`]*\\)[^`]*`: ", "");
  }

  /** The sentences from here on stand under this heading. */
  void at(String name) {
    heading = name;
  }

  /** The test fails if this sentence, or this part of one, does not hold. */
  void says(String sentence, Runnable test) {
    quotes.computeIfAbsent(heading, name -> new ArrayList<>()).add(sentence);
    Checks.against(heading + ", \"" + sentence + "\"");
    Checks.check("the document does not say so",
        sections.isEmpty() || sections.getOrDefault(heading, "").contains(sentence));
    try {
      test.run();
    } catch (RuntimeException e) {
      Checks.check("threw " + e + " out of turn", false);
    }
  }

  void checkThatAllIsTested() {
    for (Map.Entry<String, String> section : sections.entrySet()) {
      List<String> tested = new ArrayList<>(quotes.getOrDefault(section.getKey(), List.of()));
      // the longest first, since a short quote may stand in a long one too
      tested.sort(Comparator.comparingInt(quote -> -quote.length()));
      String rest = section.getValue();
      for (String quote : tested) {
        rest = rest.replace(quote, " ");
      }
      rest = rest.replaceAll("[^A-Za-z0-9]+", " ").trim();
      Checks.against(section.getKey());
      Checks.check("no test holds the class against: " + rest, rest.isEmpty());
    }
  }
}
