import java.io.IOException;
import java.nio.file.Files;
import java.nio.file.Path;
import java.util.ArrayList;
import java.util.LinkedHashMap;
import java.util.List;
import java.util.Map;

/** The document's words by headings, and which of them a test has quoted. */
final class Doc {
  private static final class Part {
    final String words;
    final boolean[] quoted;

    Part(String words) {
      this.words = words;
      this.quoted = new boolean[words.length()];
    }
  }

  /** "What it is", "Terms", and "1" to "36" for the promises. */
  private final Map<String, Part> parts = new LinkedHashMap<>();

  Doc(Path path) throws IOException {
    for (String part : ("\n" + Files.readString(path)).split("\n## ")) {
      String heading = part.lines().findFirst().orElse("");
      String words = part.substring(heading.length()).replace("```text", "").replace("```", "")
          .replaceAll("(?m)^\\d+\\. ", "").replaceAll("\\s+", " ").strip();
      if (heading.equals("What it is")) {
        parts.put(heading, new Part(words.replaceFirst("^A writer on nine keys: [^.]*\\. ", "")));
      } else if (heading.equals("Terms")) {
        parts.put(heading, new Part(words.replaceAll("Ahead of the calls .*", "").strip()));
      } else if (heading.startsWith("Promise ")) {
        String number = heading.replaceAll("Promise (\\d+):.*", "$1");
        parts.put(number, new Part(words.replaceFirst("^`[^`]*`: ", "")));
      }
    }
  }

  /** Marks words as quoted: whether they stand under the heading. */
  boolean quote(String heading, String words) {
    Part part = parts.get(heading);
    int from = part == null ? -1 : part.words.indexOf(words);
    if (from < 0) {
      return false;
    }
    for (int i = from; i < from + words.length(); i++) {
      part.quoted[i] = true;
    }
    return true;
  }

  int size() {
    return parts.size();
  }

  /** The clauses of which no word was quoted; a clause ends with a full stop or a semicolon. */
  List<String> unquoted() {
    List<String> found = new ArrayList<>();
    for (Map.Entry<String, Part> entry : parts.entrySet()) {
      Part part = entry.getValue();
      int from = 0;
      for (int i = 1; i <= part.words.length(); i++) {
        boolean ends = i == part.words.length()
            || part.words.charAt(i) == ' ' && ".;".indexOf(part.words.charAt(i - 1)) >= 0;
        if (ends) {
          if (!anyQuoted(part, from, i)) {
            found.add(entry.getKey() + ": " + part.words.substring(from, i));
          }
          from = i + 1;
        }
      }
    }
    return found;
  }

  private static boolean anyQuoted(Part part, int from, int to) {
    for (int i = from; i < to; i++) {
      if (part.quoted[i]) {
        return true;
      }
    }
    return false;
  }
}
