import java.io.IOException;
import java.nio.file.Path;

/**
 * Every sentence of the document, each with a test of its own that is told by the sentence. Its arguments: the class's
 * file and the document's.
 */
public final class DocumentTests {
  private DocumentTests() {}

  public static void main(String[] args) throws IOException {
    Document document = new Document(Path.of(args[1]));
    WhatItIsTests.say(document);
    TermsTests.say(document, Path.of(args[0]));
    CrossingsTests.say(document);
    TextsTests.say(document);
    UndoTests.say(document);
    LooksTests.say(document);
    WouldBeTests.say(document);
    document.checkThatAllIsTested();
    Checks.end("DocumentTests");
  }
}
