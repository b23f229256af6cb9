import java.io.IOException;
import java.io.UncheckedIOException;
import java.nio.file.Files;
import java.nio.file.Path;
import java.util.BitSet;
import java.util.HashSet;
import java.util.Map;
import java.util.Set;
import java.util.TreeMap;
import java.util.function.Consumer;

/** The document's sentences: each has a test of its own, and none is left without one. */
final class Sentences {
  private static final Path DOCUMENT = Path.of("../shared/DOC.md");

  private final Check check;
  private final Map<String, String> parts = new TreeMap<>();
  private final Map<String, BitSet> quoted = new TreeMap<>();
  private final Set<String> quotes = new HashSet<>();
  private String part = "";

  Sentences(Check check) {
    this.check = check;
    for (String one : read().split("(?m)^## ")) {
      String heading = one.lines().findFirst().orElse("");
      if (heading.equals("What it is")) {
        put(heading, one.substring(one.indexOf("==== 1.") + "==== 1.".length()));
      }
      if (heading.equals("Terms") || heading.startsWith("Promise ")) {
        put(heading.split(":")[0], one.substring(heading.length()));
      }
    }
  }

  private static String read() {
    if (!Files.isReadable(DOCUMENT)) {
      System.out.println("no " + DOCUMENT + " here: the tests run, but the quotes are not looked up");
      return "";
    }
    try {
      return Files.readString(DOCUMENT);
    } catch (IOException e) {
      throw new UncheckedIOException(e);
    }
  }

  /** Keeps a part without its fences and, of a promise, without the signature. */
  private void put(String heading, String text) {
    String plain = text.replace("```text", "").replace("```", "").replaceAll("(?m)^`[^`]*\\)`: ", "");
    parts.put(heading, plain.replaceAll("\\s+", " "));
    quoted.put(heading, new BitSet());
  }

  /** The sentences that are tested next are of this part. */
  void in(String heading) {
    part = heading;
    if (!parts.isEmpty()) {
      check.due("the document has a part " + heading, parts.containsKey(heading), true);
    }
  }

  /** Runs the test of a sentence, or of a part of one, that stands in the document as it is quoted. */
  void test(String quote, Consumer<Check> test) {
    check.due(part + " \"" + quote + "\" is tested once", quotes.add(part + quote), true);
    if (!parts.isEmpty()) {
      lookUp(quote);
    }
    int before = check.answers();
    check.about(part + " \"" + quote + "\" ");
    test.accept(check);
    check.about("");
    check.due(part + " \"" + quote + "\" asks for an answer", check.answers() > before, true);
  }

  private void lookUp(String quote) {
    int at = parts.getOrDefault(part, "").indexOf(quote);
    check.due(part + " says \"" + quote + "\"", at >= 0, true);
    if (at >= 0) {
      quoted.get(part).set(at, at + quote.length());
    }
  }

  /** Tells each word of the document that no test has quoted. */
  void judge() {
    for (String heading : parts.keySet()) {
      String text = parts.get(heading);
      BitSet tested = quoted.get(heading);
      for (int i = 0; i < text.length(); i++) {
        if (Character.isLetterOrDigit(text.charAt(i)) && !tested.get(i)) {
          int end = tested.nextSetBit(i);
          String left = text.substring(i, end < 0 ? text.length() : end);
          check.due(heading + " has no test of \"" + left.trim() + "\"", false, true);
          i += left.length() - 1;
        }
      }
    }
  }
}
