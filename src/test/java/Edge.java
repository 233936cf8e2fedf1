import java.util.HashMap;
import java.util.LinkedHashMap;
import java.util.Map;

/**
 * Which words of the document have a test of their own. A test of an edge names the words that it is for, which must
 * stand there; in the end no word of the terms and of the promises may be left over.
 */
final class Edge {
  private static final Map<String, String> sections = new LinkedHashMap<>();
  private static final Map<String, boolean[]> tested = new HashMap<>();

  private Edge() {}

  static void read(String doc) {
    String terms = between(doc, "## Terms", "## Promise 1:");
    for (int part = 1; part <= 4; part++) {
      String from = part == 1 ? "" : "==== " + part + ".";
      String to = part == 4 ? "" : "==== " + (part + 1) + ".";
      keep("Terms " + part, between(terms, from, to));
    }
    for (int i = 1; i <= 40; i++) {
      String section = between(doc, "## Promise " + i + ":", i == 40 ? "## Not promised" : "## Promise " + (i + 1) + ":");
      keep("Promise " + i, section.substring(section.indexOf("`: ") + 3));
    }
  }

  private static String between(String text, String from, String to) {
    int start = text.indexOf(from) + from.length();
    return text.substring(start, to.isEmpty() ? text.length() : text.indexOf(to, start));
  }

  private static void keep(String name, String text) {
    String words = text.replace("```text", " ").replace("```", " ").replaceAll("\\s+", " ").trim();
    sections.put(name, words);
    tested.put(name, new boolean[words.length()]);
  }

  static void term(int part, String... words) {
    name("Terms " + part, words);
  }

  static void promise(int number, String... words) {
    name("Promise " + number, words);
  }

  private static void name(String section, String... words) {
    Check.sentence = section + ", \"" + String.join(" .. ", words) + "\": ";
    String text = sections.get(section);
    for (String part : words) {
      Check.due("the words stand there: " + part, text.contains(part), true);
      for (int at = text.indexOf(part); at >= 0; at = text.indexOf(part, at + 1)) {
        java.util.Arrays.fill(tested.get(section), at, at + part.length(), true);
      }
    }
  }

  static void nothingLeftOver() {
    Check.sentence = "";
    for (Map.Entry<String, String> section : sections.entrySet()) {
      String text = section.getValue();
      boolean[] done = tested.get(section.getKey());
      StringBuilder left = new StringBuilder();
      for (int i = 0; i < text.length(); i++) {
        left.append(done[i] ? '\n' : text.charAt(i));
      }
      for (String words : left.toString().split("\n+")) {
        boolean says = words.chars().anyMatch(Character::isLetterOrDigit);
        Check.due(section.getKey() + " without a test: " + words, says, false);
      }
    }
  }
}
