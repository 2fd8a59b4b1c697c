import java.nio.file.Files;
import java.nio.file.Path;
import java.util.ArrayList;
import java.util.List;
import java.util.Map;
import java.util.Set;
import java.util.TreeMap;
import java.util.TreeSet;
import java.util.regex.Matcher;
import java.util.regex.Pattern;

/** Rules of LANGUAGE.md that can be seen in the source's text. */
public final class LanguageTest {
  private static final Path SOURCE = Path.of("src/main/java/FootNotes.java");
  private static final List<String> wrong = new ArrayList<>();

  public static void main(String[] args) throws Exception {
    String source = Files.readString(SOURCE);
    for (int i = 0; i < source.length(); i++)
      if (source.charAt(i) > 126) wrong.add("a sign above 126 at " + i);
    String code = source.replaceAll("(?s)/\\*.*?\\*/", "").replaceAll("//[^\n]*", "").replaceAll("\"[^\"\n]*\"", "\"\"");
    banned(code);
    library(code);
    methods(source);
    calls(code);
    classes(code);
    for (String w : wrong) System.out.println(w);
    System.out.println("LanguageTest: " + (wrong.isEmpty() ? "the rules are kept" : wrong.size() + " faults"));
    if (!wrong.isEmpty()) System.exit(1);
  }

  private static void banned(String code) {
    String[] words = {"throw", "throws", "try", "catch", "finally", "synchronized", "assert", "package", "protected", "native",
      "volatile", "transient", "var", "yield", "Object", "System\\.(?!arraycopy)", "hashCode", "toString", "random", "Exact"};
    for (String w : words) if (Pattern.compile("\\b" + w + (w.endsWith(")") ? "" : "\\b")).matcher(code).find()) wrong.add("rule 6 or 13: " + w);
    for (String sign : new String[] {"->", "::", "@", "static {", "\"\" +", "+ \"\""}) if (code.contains(sign)) wrong.add("not allowed: " + sign);
    Matcher statics = Pattern.compile("(?m)^.*\\bstatic (?!final)(?!.*\\().*$").matcher(code);
    while (statics.find()) wrong.add("rule 5: " + statics.group().trim());
    Matcher loops = Pattern.compile("while \\(true\\)|for \\(;;\\)").matcher(code);
    if (loops.find()) wrong.add("rule 9: a loop without an end");
  }

  private static void library(String code) {
    Matcher imports = Pattern.compile("(?m)^import (.*);").matcher(code);
    while (imports.find()) if (!imports.group(1).equals("java.util.Arrays")) wrong.add("rule 4: import " + imports.group(1));
    Matcher calls = Pattern.compile("\\b(Arrays|Math|Integer|Long|String|System)\\.(\\w+)").matcher(code);
    while (calls.find())
      if (!List.of("fill", "copyOf", "copyOfRange", "max", "min", "abs", "bitCount", "compare", "arraycopy").contains(calls.group(2)))
        wrong.add("rule 4: " + calls.group());
  }

  /** Rule 11: at most seven parameters, some sixty lines. */
  private static void methods(String source) {
    String[] lines = source.split("\n");
    Pattern head = Pattern.compile("^( {4}| {8})(?:public|private) (?:static )?(?!.*class )\\w[\\w\\[\\]]* ?\\w*\\((.*)\\) \\{$");
    for (int i = 0; i < lines.length; i++) {
      Matcher m = head.matcher(lines[i]);
      if (!m.matches()) continue;
      int end = i;
      while (end < lines.length && !lines[end].equals(m.group(1) + "}")) end++;
      if (end - i > 60) wrong.add("rule 11: too long: " + lines[i].trim());
      if (m.group(2).split(",").length > 7) wrong.add("rule 11: too many parameters: " + lines[i].trim());
    }
  }

  /** Rules 8, 11: no method comes back to itself, and calls go at most eight deep (methods of one name are taken as one). */
  private static void calls(String code) {
    Map<String, Set<String>> called = new TreeMap<>();
    Matcher heads = Pattern.compile("(?m)^( {4}| {8})(?:public|private) (?:static )?(?!.*class )\\w[\\w\\[\\]]* ?(\\w*)\\(.*\\) \\{$").matcher(code);
    while (heads.find()) {
      int end = code.indexOf("\n" + heads.group(1) + "}", heads.end());
      Matcher calls = Pattern.compile("(?<!new )\\b(\\w+)\\(").matcher(code.substring(heads.end(), end));
      Set<String> names = called.computeIfAbsent(heads.group(2), n -> new TreeSet<>());
      while (calls.find()) names.add(calls.group(1));
    }
    if (called.size() < 64) wrong.add("only " + called.size() + " methods were found");
    for (String name : called.keySet())
      if (depth(called, name, 0) > 8) wrong.add("rule 8 or 11: a call of " + name + " goes more than eight deep");
  }

  private static int depth(Map<String, Set<String>> called, String name, int above) {
    if (above > 8 || !called.containsKey(name)) return above;
    int most = above + 1;
    for (String next : called.get(name)) most = Math.max(most, depth(called, next, above + 1));
    return most;
  }

  /** Rules 2, 11, 12: at most twelve classes of at most twenty fields; objects are made in initialisers alone. */
  private static void classes(String code) {
    String[] parts = code.split("(?m)^ {4}private static final class ");
    if (parts.length > 12) wrong.add("rule 11: " + parts.length + " classes");
    for (String part : parts) {
      Matcher field = Pattern.compile("(?m)^ {4,8}private (?!static)(?:final )?[\\w\\[\\]]+ \\w+( =.*)?;").matcher(part);
      int fields = 0;
      while (field.find()) fields++;
      if (fields > 20) wrong.add("rule 11: " + fields + " fields: " + part.substring(0, 20));
    }
    for (String line : code.split("\n"))
      if (line.contains("new ") && !line.contains("private final") && !line.matches(" *(imageTexts\\[k\\]|imageShelves\\[k\\]|rows\\[slot\\]) = new \\w+\\(\\);"))
        wrong.add("rule 12: made outside the constructor: " + line.trim());
  }
}
