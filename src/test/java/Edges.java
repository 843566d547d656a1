import java.io.IOException;
import java.nio.file.Files;
import java.nio.file.Path;
import java.util.Map;
import java.util.TreeMap;
import java.util.function.IntUnaryOperator;
import java.util.regex.Matcher;
import java.util.regex.Pattern;

/**
 * A Due that quotes: each test names the sentence of the document that it holds, and that has to stand there.
 * At the end no word of the terms and promises may be left that no test has quoted.
 */
final class Edges extends Due {
  static final int NOTHING = -1000;
  static final int BIG = Integer.MAX_VALUE;
  static final int SMALL = Integer.MIN_VALUE;
  static final String BY_MARK = "bay letter;place number";

  private final Map<String, String> sections = new TreeMap<>();
  private final Map<String, boolean[]> quoted = new TreeMap<>();

  Edges(Path doc) throws IOException {
    super("EdgesTest");
    String text = Files.readString(doc);
    String terms = text.substring(text.indexOf("## Terms"), text.indexOf("## Promise 1:"));
    cut(terms.replace("```text", " ").replace("```", " "), "(?m)^(I|II|III|IV|V)\\. ");
    cut(text.substring(text.indexOf("## Promise 1:"), text.indexOf("## Not promised")), "## Promise (\\d+): \\w.*");
    part("the document");
    is("sections", sections.size(), 5 + 52);
  }

  private void cut(String text, String head) {
    Matcher m = Pattern.compile(head).matcher(text);
    String name = null;
    int from = 0;
    while (m.find()) {
      add(name, text.substring(from, m.start()));
      name = m.group(1);
      from = m.end();
    }
    add(name, text.substring(from));
  }

  private void add(String name, String text) {
    if (name != null) {
      sections.put(name, text.replaceAll("\\s+", " ").strip());
      quoted.put(name, new boolean[sections.get(name).length()]);
    }
  }

  /** A test of a sentence begins: the section is a term (I to V) or a promise (1 to 52). */
  void sentence(String section, String quote) {
    part((section.matches("\\d+") ? "promise " : "terms ") + section + ", \"" + quote + "\"");
    int at = sections.get(section).indexOf(quote);
    holds("the document says so", at >= 0);
    while (at >= 0) {
      for (int n = 0; n < quote.length(); n++) {
        quoted.get(section)[at + n] = true;
      }
      at = sections.get(section).indexOf(quote, at + 1);
    }
  }

  /** Words that no test has quoted; the calls' own faces are held by RulesTest. */
  void allQuoted() {
    part("the document");
    sections.forEach((section, text) -> {
      Matcher face = Pattern.compile("^`[^`]*`: ").matcher(text);
      int from = face.find() ? face.end() : 0;
      StringBuilder left = new StringBuilder();
      for (int n = from; n < text.length(); n++) {
        left.append(quoted.get(section)[n] ? '_' : text.charAt(n));
      }
      String words = left.toString().replaceAll("_+", " _ ").replaceAll("\\s+", " ").strip();
      holds(section + " has words that no test has quoted: " + words, !words.matches(".*[A-Za-z0-9].*"));
    });
  }

  /** Of a call's numbers the last that are taken and the first that are not, on both sides, and the farthest. */
  void range(String call, int least, int most, int not, IntUnaryOperator asked) {
    for (int n : new int[] {least, most}) {
      holds(call + " takes " + n, asked.applyAsInt(n) != not);
    }
    for (int n : new int[] {least - 1, most + 1, SMALL, BIG}) {
      is(call + " of " + n, asked.applyAsInt(n), not);
    }
  }

  /** A call's answers for 0, 1, 2 and so on, and what it answers beside them, on both sides. */
  void row(String call, IntUnaryOperator asked, int not, int... want) {
    for (int i = 0; i < want.length; i++) {
      is(call + " of " + i, asked.applyAsInt(i), want[i]);
    }
    for (int i : new int[] {-2, want.length, SMALL, BIG}) {
      is(call + " of " + i, asked.applyAsInt(i), not);
    }
  }

  /** The text's number; its tape has to be empty ahead. */
  int newText(RedMarks x, String text) {
    int got = Due.text(x, text);
    holds("\"" + text + "\" is a text", got >= 0);
    return got;
  }
}
