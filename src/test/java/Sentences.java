import java.io.IOException;
import java.io.UncheckedIOException;
import java.nio.file.Files;
import java.nio.file.Path;
import java.util.ArrayList;
import java.util.LinkedHashMap;
import java.util.List;
import java.util.Map;
import java.util.regex.Matcher;
import java.util.regex.Pattern;

/**
 * Ties tests to the document's words: a test begins with the words that it tests, which must stand
 * in the document, and at the end no word of the terms and promises may be left without a test.
 */
final class Sentences {
  private static final Path DOCUMENT = Path.of("../shared/DOC.md");

  /** By "1" to "65", "I" to "VI", "block" (in term I) and "use". */
  private final Map<String, String> sections = new LinkedHashMap<>();
  private final Map<String, boolean[]> quoted = new LinkedHashMap<>();
  private final List<String> wrong = new ArrayList<>();
  private String now = "";
  private int answers = 1;
  private int tests = 0;

  Sentences() {
    String text = readDocument();
    take("use", text, "(?s)(An object is used for .*?)\n\n");
    take("block", text, "(?s)```text\n(.*?)```");
    for (String term : List.of("I", "II", "III", "IV", "V", "VI")) take(term, text, "(?m)^" + term + "\\. (.*)$");
    for (int n = 1; n <= 65; n++) take("" + n, text, "(?m)^## Promise " + n + ": .*\n\n`.*?`: (.*)$");
  }

  private static String readDocument() {
    try {
      return Files.readString(DOCUMENT);
    } catch (IOException e) {
      throw new UncheckedIOException(e);
    }
  }

  private void take(String section, String text, String pattern) {
    Matcher m = Pattern.compile(pattern).matcher(text);
    if (!m.find()) throw new IllegalStateException("the document has no section " + section);
    sections.put(section, m.group(1));
    quoted.put(section, new boolean[m.group(1).length()]);
  }

  /** A test of these words begins. */
  void says(String section, String words) {
    closeTest();
    now = section + ", \"" + words + "\"";
    answers = 0;
    tests++;
    String text = sections.get(section);
    int at = text.indexOf(words);
    if (at < 0) wrong.add("not in the document: " + now);
    for (; at >= 0; at = text.indexOf(words, at + 1))
      for (int i = 0; i < words.length(); i++) quoted.get(section)[at + i] = true;
  }

  void says(int promise, String words) { says("" + promise, words); }

  void due(String call, int got, int want) {
    answers++;
    if (got != want) wrong.add(now + ": " + call + " answered " + got + ", due is " + want);
  }

  private void closeTest() {
    if (answers == 0) wrong.add("nothing is asked: " + now);
  }

  /** Tells what is wrong and which words no test has quoted: whether all is well. */
  boolean finish() {
    closeTest();
    for (String section : sections.keySet()) findUntested(section);
    for (String w : wrong) System.out.println(w);
    System.out.println("BoundaryTest: " + tests + " sentences, " + (wrong.isEmpty() ? "each holds" : wrong.size() + " faults"));
    return wrong.isEmpty();
  }

  private void findUntested(String section) {
    String text = sections.get(section);
    StringBuilder left = new StringBuilder();
    boolean words = false;
    for (int i = 0; i < text.length(); i++) {
      boolean tested = quoted.get(section)[i];
      left.append(tested ? '_' : text.charAt(i));
      words |= !tested && Character.isLetterOrDigit(text.charAt(i));
    }
    if (words) wrong.add("no test of " + section + ": " + left.toString().replaceAll("_+", " .. "));
  }
}
