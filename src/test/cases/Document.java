import java.io.IOException;
import java.nio.file.Files;
import java.nio.file.Path;
import java.util.BitSet;
import java.util.LinkedHashMap;
import java.util.Map;
import java.util.regex.Matcher;
import java.util.regex.Pattern;

/** The document by sections ("What it is", "IV", "Promise 8"), and which of its words some test has quoted. */
final class Document {
  private static final Pattern HEAD = Pattern.compile("(?m)^(?:## (Promise \\d+): .*|(I|II|III|IV|V|VI|VII)\\. )");
  private static final Pattern WORD = Pattern.compile("-?\\w+");

  private final Map<String, String> sections = new LinkedHashMap<>();
  private final Map<String, BitSet> quoted = new LinkedHashMap<>();

  Document(Path path) throws IOException {
    String text = Files.readString(path);
    put("What it is", text.substring(text.indexOf("An object is used"), text.indexOf("## The public face")));
    text = text.substring(text.indexOf("## Terms"), text.indexOf("## Not promised"));
    Matcher head = HEAD.matcher(text);
    String name = null;
    int from = 0;
    while (head.find()) {
      if (name != null) put(name, text.substring(from, head.start()));
      name = head.group(1) != null ? head.group(1) : head.group(2);
      from = head.end();
    }
    put(name, text.substring(from));
  }

  private void put(String name, String text) {
    // a promise's signature, and the marks about a block, are no words of a sentence
    sections.put(name, text.replaceAll("(?m)^`[^`]*`: ", "").replaceAll("(?m)^```\\w*$", ""));
    quoted.put(name, new BitSet());
  }

  /** Marks what is quoted; false: the section does not say that. */
  boolean quote(String section, String words) {
    String text = sections.get(section);
    int at = text == null ? -1 : text.indexOf(words);
    if (at < 0) return false;
    for (int i = at; i >= 0; i = text.indexOf(words, i + 1)) quoted.get(section).set(i, i + words.length());
    return true;
  }

  /** The stretches of words that no test has quoted, a line each. */
  String unquoted() {
    StringBuilder out = new StringBuilder();
    for (String section : sections.keySet()) {
      String text = sections.get(section);
      BitSet marks = quoted.get(section);
      for (int from = marks.nextClearBit(0); from < text.length(); from = marks.nextClearBit(from)) {
        int end = marks.nextSetBit(from) < 0 ? text.length() : marks.nextSetBit(from);
        String words = text.substring(from, end);
        if (WORD.matcher(words).find()) {
          out.append(section).append(": no test quotes \"").append(words.strip()).append("\"\n");
        }
        from = end;
      }
    }
    return out.toString();
  }
}
