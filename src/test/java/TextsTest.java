import java.util.ArrayList;
import java.util.List;
import java.util.Random;
import java.util.TreeMap;

/** Drawn texts about as long, deep and many-parted as can be, and some beyond, against the Oracle. */
public final class TextsTest {
  private static final String[] HEADS = {"bay", "shelf", "place", "ours", "false"};
  private static final String[] TOKENS = {"bay", "if", "or", "and", "not", "(", ")", "[", "]", "+", "-", "*", "/", "<",
      ">", "=", ";", "number", "7", "1000", "1001", "x", "~"};
  private static final int[][] FACTS = {{3, 7, 50, 6, 9, 1, 12, 2, 3, 500, 1, 4}, {0, 1, 0, 1, 1, 0, 0, 0, 0, 0, 0, 0},
      {-1, -1, 199, 30, 40, 2, 40, 9, 9, 999, 7, 11}};

  private static final Due due = new Due("TextsTest");
  private final Random random;
  private final StringBuilder text = new StringBuilder();
  private final int most;
  private int brackets = 0;

  private TextsTest(int seed) {
    random = new Random(seed);
    most = 150 + random.nextInt(300);
  }

  public static void main(String[] args) throws Exception {
    TreeMap<Integer, Integer> counts = new TreeMap<>();
    int texts = Integer.getInteger("texts", 6000);
    for (int seed = 0; seed < texts; seed++) {
      due.part("text " + seed);
      counts.merge(compare(new TextsTest(seed).drawn()), 1, Integer::sum);
    }
    due.part("all texts");
    due.holds("read and not: " + counts, counts.getOrDefault(0, 0) > texts / 5 && counts.getOrDefault(-6, 0) > texts / 5);
    due.finish();
  }

  private static int compare(String bytes) throws IllegalAccessException {
    Pair pair = new Pair(due);
    pair.tape(bytes);
    int text = pair.call("text");
    pair.call("fault");
    for (int book = 0; text == 0 && book < FACTS.length; book++) {
      int[] facts = FACTS[book];
      pair.call("book", facts[0], facts[1], facts[2], facts[3], facts[4]);
      for (int fact = 5; fact < facts.length; fact++) {
        pair.call("fact", book, fact, facts[fact]);
      }
      for (int what = 0; what < 4; what++) {
        pair.call("seat", 0, book, what);
      }
      pair.call("ours", 0, book, -1);
    }
    pair.call("untrue", 0, 0, 0);
    if (!pair.isAlike()) {
      System.out.println("\"" + bytes + "\"");
    }
    return text;
  }

  private String drawn() {
    int clauses = random.nextInt(3) == 0 ? 11 + random.nextInt(3) : 1 + random.nextInt(6);
    for (int n = 0; n < clauses; n++) {
      text.append(n == 0 ? "" : ";");
      clause(most * (n + 1) / clauses);
    }
    text.setLength(Math.min(text.length(), 400));
    if (random.nextInt(3) == 0) {
      spoil();
    }
    return text.toString();
  }

  /** A clause that ends somewhere about a place. */
  private void clause(int until) {
    String head = HEADS[random.nextInt(HEADS.length)];
    text.append(head);
    if (!head.equals("false")) {
      text.append(' ');
      int half = random.nextInt(3) == 0 ? until : (text.length() + until) / 2;
      sum(random.nextInt(10) == 0 ? half : Math.min(half, text.length() + random.nextInt(20)));
    }
    if (text.length() < until) {
      text.append(" if ");
      test(until);
    }
  }

  private void sum(int until) {
    part(until);
    for (int n = 0; n < 60 && text.length() < until; n++) {
      text.append("+-*/".charAt(random.nextInt(4)));
      part(until);
    }
  }

  private void part(int until) {
    int kind = random.nextInt(8);
    if (kind < 3 && text.length() < until && mayOpen()) {
      bracket('[', until);
    } else if (kind < 6) {
      int[] numbers = {0, 1, 1, 2, 3, 7, 10, 1000};
      text.append(numbers[random.nextInt(numbers.length)]);
    } else {
      List<String> facts = new ArrayList<>(OracleText.FACTS);
      text.append(facts.get(random.nextInt(facts.size())));
    }
  }

  /** Eight within one another at most, seldom nine. */
  private boolean mayOpen() {
    return brackets < 8 || brackets == 8 && random.nextInt(40) == 0;
  }

  private void bracket(char sign, int until) {
    int end = text.length() + 1 + random.nextInt(until - text.length());
    text.append(sign);
    brackets++;
    if (sign == '[') {
      sum(end);
    } else {
      test(end);
    }
    brackets--;
    text.append(sign == '[' ? ']' : ')');
  }

  private void test(int until) {
    plain(until);
    for (int n = 0; n < 60 && text.length() < until; n++) {
      text.append(random.nextBoolean() ? " or " : " and ");
      plain(until);
    }
  }

  private void plain(int until) {
    int kind = random.nextInt(8);
    if (kind == 0) {
      text.append("not ");
      plain(until);
    } else if (kind < 5 && text.length() < until && mayOpen()) {
      bracket('(', until);
    } else {
      sum(Math.min(until, text.length() + random.nextInt(8)));
      text.append("<>=".charAt(random.nextInt(3)));
      sum(Math.min(until, text.length() + random.nextInt(8)));
    }
  }

  private void spoil() {
    int at = random.nextInt(text.length());
    String token = TOKENS[random.nextInt(TOKENS.length)];
    if (random.nextBoolean()) {
      text.delete(at, Math.min(text.length(), at + token.length()));
    }
    text.insert(at, random.nextBoolean() ? token : " " + token + " ");
    text.setLength(Math.min(text.length(), 400));
  }
}
