import java.io.IOException;
import java.nio.file.Files;
import java.nio.file.Path;
import java.util.BitSet;
import java.util.LinkedHashMap;
import java.util.Map;
import java.util.regex.Matcher;
import java.util.regex.Pattern;

/** The document by sections ("Promise 8", "IV"), and which of its words some test has quoted. */
final class Document {
  private static final Pattern HEAD = Pattern.compile("(?m)^(?:## (Promise \\d+): .*|(I|II|III|IV|V|VI|VII)\\. )");
  /** What names an edge in a promise: an answer that refuses, NONE, false, and a range of numbers. */
  private static final Pattern EDGE = Pattern.compile("-\\d+|NONE|false|\\w+ \\.\\. \\w+");

  private final Map<String, String> sections = new LinkedHashMap<>();
  private final Map<String, BitSet> quoted = new LinkedHashMap<>();

  Document(Path path) throws IOException {
    String text = Files.readString(path);
    text = text.substring(text.indexOf("## Terms"), text.indexOf("## Not promised"));
    Matcher head = HEAD.matcher(text);
    String name = null;
    int from = 0;
    while (head.find()) {
      if (name != null) put(name, text.substring(from, head.start()));
      name = head.group(1) != null ? head.group(1) : head.group(2);
      from = head.end();
    }
    put(name, text.substring(from));
  }

  private void put(String name, String text) {
    // a promise's signature has no edges of its own
    sections.put(name, text.replaceAll("(?m)^`[^`]*`: ", ""));
    quoted.put(name, new BitSet());
  }

  /** Marks what is quoted; false: the section does not say that. */
  boolean quote(String section, String words) {
    String text = sections.get(section);
    int at = text == null ? -1 : text.indexOf(words);
    if (at < 0) return false;
    for (int i = at; i >= 0; i = text.indexOf(words, i + 1)) quoted.get(section).set(i, i + words.length());
    return true;
  }

  /** The edges that no test has quoted, a line each. */
  String unquoted() {
    StringBuilder out = new StringBuilder();
    for (String section : sections.keySet()) {
      Matcher edge = EDGE.matcher(sections.get(section));
      while (edge.find()) {
        if (quoted.get(section).nextClearBit(edge.start()) < edge.end()) {
          out.append(section).append(": no test quotes \"").append(edge.group()).append("\"\n");
        }
      }
      if (quoted.get(section).isEmpty()) out.append(section).append(": no test quotes it\n");
    }
    return out.toString();
  }
}
