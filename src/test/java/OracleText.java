import java.util.ArrayList;
import java.util.List;

/** A TEXT of the document, read into a tree, as plainly as can be. */
final class OracleText {
  /** A FAULT at a place. */
  static final class Fault extends Exception {
    private static final long serialVersionUID = 1L;
    final int place;

    Fault(int place) {
      this.place = place;
    }
  }

  /** A SUM or a TEST that is BROKEN. */
  static final class Broken extends Exception {
    private static final long serialVersionUID = 1L;
  }

  interface Sum {
    long of(int[] facts) throws Broken;
  }

  interface Test {
    boolean of(int[] facts) throws Broken;
  }

  record Token(String word, int place) {}

  record Clause(String head, Sum sum, Test test) {}

  static final List<String> FACTS = List.of("letter", "number", "came", "thick", "tall", "hole",
      "height", "star", "damp", "word", "subject", "house");

  private final List<Clause> clauses = new ArrayList<>();
  private final List<Token> tokens = new ArrayList<>();
  private int at = 0;
  private int parts = 0;
  private int open = 0;

  OracleText(String text) throws Fault {
    java.util.regex.Matcher m = java.util.regex.Pattern
        .compile("[a-z]+|[0-9]+|[^ ]", java.util.regex.Pattern.DOTALL).matcher(text);
    while (m.find()) {
      tokens.add(new Token(m.group(), m.start()));
    }
    tokens.add(new Token("", text.length()));
    clause();
    while (!word().isEmpty()) {
      need(";");
      if (clauses.size() == 12) {
        throw fault();
      }
      clause();
    }
  }

  /** What a HEAD tells of a BOOK; null: nothing. */
  Long told(String head, int[] facts) {
    Long told = null;
    for (Clause c : clauses) {
      if (c.head.equals(head)) {
        try {
          long value = c.sum.of(facts);
          if (c.test.of(facts)) {
            told = value;
          }
        } catch (Broken b) {
          continue;
        }
      }
    }
    return told;
  }

  private String word() {
    return tokens.get(at).word;
  }

  private Fault fault() {
    return new Fault(tokens.get(at).place);
  }

  private boolean take(String word) {
    if (word().equals(word)) {
      at++;
      return true;
    }
    return false;
  }

  private void need(String word) throws Fault {
    if (!take(word)) {
      throw fault();
    }
  }

  private void clause() throws Fault {
    String head = word();
    if (!List.of("bay", "shelf", "place", "ours", "false").contains(head)) {
      throw fault();
    }
    at++;
    Sum sum = head.equals("false") ? facts -> 1 : sum();
    Test test = take("if") ? test() : facts -> true;
    clauses.add(new Clause(head, sum, test));
  }

  private Test test() throws Fault {
    Test left = both();
    while (take("or")) {
      Test one = left;
      Test other = both();
      left = facts -> one.of(facts) || other.of(facts);
    }
    return left;
  }

  private Test both() throws Fault {
    Test left = plain();
    while (take("and")) {
      Test one = left;
      Test other = plain();
      left = facts -> one.of(facts) && other.of(facts);
    }
    return left;
  }

  private Test plain() throws Fault {
    if (take("not")) {
      Test turned = plain();
      return facts -> !turned.of(facts);
    }
    if (word().equals("(")) {
      enter();
      Test inside = test();
      need(")");
      open--;
      return inside;
    }
    Sum left = sum();
    String sign = word();
    if (!List.of("<", ">", "=").contains(sign)) {
      throw fault();
    }
    at++;
    Sum right = sum();
    return facts -> {
      int compared = Long.compare(left.of(facts), right.of(facts));
      return sign.equals("<") ? compared < 0 : sign.equals(">") ? compared > 0 : compared == 0;
    };
  }

  private void enter() throws Fault {
    if (open == 8) {
      throw fault();
    }
    open++;
    at++;
  }

  private Sum sum() throws Fault {
    Sum left = term();
    while (word().equals("+") || word().equals("-")) {
      boolean plus = tokens.get(at++).word.equals("+");
      Sum one = left;
      Sum other = term();
      left = facts -> bounded(plus ? one.of(facts) + other.of(facts) : one.of(facts) - other.of(facts));
    }
    return left;
  }

  private Sum term() throws Fault {
    Sum left = part();
    while (word().equals("*") || word().equals("/")) {
      boolean times = tokens.get(at++).word.equals("*");
      Sum one = left;
      Sum other = part();
      left = facts -> times ? bounded(one.of(facts) * other.of(facts)) : divided(one.of(facts), other.of(facts));
    }
    return left;
  }

  private static long bounded(long value) throws Broken {
    if (Math.abs(value) > 1_000_000_000L) {
      throw new Broken();
    }
    return value;
  }

  private static long divided(long one, long other) throws Broken {
    if (other == 0) {
      throw new Broken();
    }
    return one / other;
  }

  private Sum part() throws Fault {
    if (word().equals("[")) {
      enter();
      Sum inside = sum();
      need("]");
      open--;
      return inside;
    }
    boolean digits = word().matches("[0-9]+");
    int fact = FACTS.indexOf(word());
    if (!digits && fact < 0 || parts == 50) {
      throw fault();
    }
    if (digits && new java.math.BigInteger(word()).compareTo(java.math.BigInteger.valueOf(1000)) > 0) {
      throw fault();
    }
    parts++;
    int number = digits ? Integer.parseInt(word()) : 0;
    at++;
    return digits ? facts -> number : facts -> facts[fact];
  }
}
