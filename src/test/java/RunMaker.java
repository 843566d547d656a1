import java.util.List;
import java.util.Random;

/** Draws calls that mean something together: few letters, numbers and words, texts of the grammar. */
final class RunMaker {
  private static final String[] HEADS = {"bay", "shelf", "place", "ours"};
  private static final String[] SCHEMES = {
      "bay letter;place number", "bay letter;place number;shelf star", "bay 0;place number+letter*10",
      "bay star;place number+came/50;shelf 1 if hole>0", "bay letter;place thick;shelf damp/2",
      "bay letter if came<100;bay 3;place number", "bay 8;shelf 5;place 99-number",
      "bay letter;place number if not damp=3;place 5 if tall>20 and star<2",
      "place height+1;bay subject;shelf house", "ours damp*100;false if star=1;ours 7 if word=0"};
  private static final int EXTREMES = 40;

  final Random random;
  final int books;
  final int lines;
  private final int letters;
  private final int numbers;

  RunMaker(long seed, boolean large) {
    random = new Random(seed);
    books = large ? 40 : 1 + random.nextInt(12);
    lines = large ? 12 : random.nextInt(7);
    letters = 1 + random.nextInt(large ? 4 : 3);
    numbers = 2 + random.nextInt(large ? 40 : 8);
  }

  /** From one to another number, seldom one beside them or far off. */
  int from(int least, int most) {
    int drawn = random.nextInt(EXTREMES);
    if (drawn == 0) {
      int[] odd = {least - 1, most + 1, Integer.MAX_VALUE, Integer.MIN_VALUE, -1, 0, most, least};
      return odd[random.nextInt(odd.length)];
    }
    return least + random.nextInt(most - least + 1);
  }

  private int[] withMark(int... rest) {
    int[] row = new int[2 + rest.length];
    boolean none = random.nextInt(6) == 0;
    row[0] = none ? -1 : from(0, letters - 1);
    row[1] = none ? -1 : from(1, numbers);
    System.arraycopy(rest, 0, row, 2, rest.length);
    return row;
  }

  private int came() {
    return random.nextBoolean() ? from(0, 199) : 50 * from(0, 3);
  }

  private int book() {
    return from(0, books - 1);
  }

  private int bay() {
    return random.nextInt(8) == 0 ? from(0, 8) : from(0, letters - 1);
  }

  private int shelf() {
    return random.nextInt(3) == 0 ? from(0, 5) : from(0, 1);
  }

  private int factValue(int fact) {
    int[] least = {0, 1, 0, 1, 1, 0, 0, 0, 0, 0, 0, 0};
    int[] most = {8, 99, 199, 30, 40, 2, 40, 2, 9, 2, 2, 3};
    return fact < 0 || fact > 11 ? 1 : from(least[fact], most[fact]);
  }

  int[] arguments(String call) {
    switch (call) {
      case "book":
        return withMark(came(), from(1, 30), from(1, 40));
      case "fact": {
        int fact = from(2, 11);
        return new int[] {book(), fact, factValue(fact)};
      }
      case "mark": {
        int[] mark = withMark();
        return new int[] {book(), mark[0], mark[1]};
      }
      case "of":
        return new int[] {book(), from(0, 11)};
      case "bay":
        return new int[] {bay(), from(0, 2)};
      case "shelf":
        return new int[] {bay(), shelf(), random.nextBoolean() ? from(1, 400) : from(1, 60), from(1, 60)};
      case "feed":
        return new int[] {random.nextInt(), random.nextInt(), random.nextInt(), random.nextInt(), random.nextInt()};
      case "end":
        return new int[] {from(0, 60)};
      case "seat":
        return new int[] {text(), book(), from(0, 3)};
      case "stand":
      case "keep":
        return new int[] {text(), text(), random.nextBoolean() ? from(0, 200) : 50 * from(0, 4)};
      case "line": {
        int[] mark = withMark();
        return new int[] {from(0, 2), from(0, 2), from(1, 30), mark[0], mark[1]};
      }
      default:
        return moreArguments(call);
    }
  }

  private int[] moreArguments(String call) {
    switch (call) {
      case "on":
        return new int[] {bay(), shelf(), from(0, 4)};
      case "free":
      case "together":
        return new int[] {bay(), shelf()};
      case "close":
        return random.nextInt(3) == 0 ? new int[] {-1, -1} : new int[] {bay(), shelf()};
      case "gap":
        return new int[] {bay(), shelf(), from(-1, 4), from(0, 1)};
      case "could":
        return new int[] {bay(), shelf(), from(0, 400), random.nextBoolean() ? -1 : from(0, Math.max(lines - 1, 0))};
      case "list":
        return new int[] {from(0, Math.max(lines - 1, 0)), from(0, 3)};
      case "fights":
      case "twice":
        return new int[] {from(0, 2), from(0, 3)};
      case "wanting":
        return new int[] {from(0, letters - 1), from(0, 2), from(0, 8)};
      case "runs":
        return new int[] {from(0, letters - 1)};
      case "binder":
        return new int[] {from(0, 2), from(0, 120), from(80, 199)};
      case "nearest":
        return new int[] {book(), from(0, 3)};
      case "agree":
        return new int[] {from(0, Math.max(lines - 1, 0)), book()};
      case "matched":
        return new int[] {book(), from(0, 1)};
      case "ours":
        return new int[] {text(), book(), random.nextBoolean() ? -1 : book()};
      case "untrue":
        return new int[] {text(), from(0, 1), from(0, 5)};
      default:
        return lastArguments(call);
    }
  }

  private int[] lastArguments(String call) {
    switch (call) {
      case "how":
      case "bound":
      case "stack":
        return new int[] {book()};
      case "went":
        return new int[] {random.nextBoolean() ? book() : from(0, 39)};
      case "best":
        return new int[] {from(0, 4)};
      case "match":
        return new int[] {from(0, 2)};
      case "left":
        return new int[] {from(0, 1)};
      case "beside":
        return new int[] {from(-1, 8)};
      case "house": {
        int all = random.nextBoolean() ? from(0, 5000) : from(0, 30);
        int most = Math.max(Math.min(all, 5000), 0);
        return new int[] {from(0, 3), all, from(0, most), random.nextBoolean() ? from(1, 100) : from(1, 3)};
      }
      case "expect":
        return new int[] {from(0, 3)};
      case "grew":
        return new int[] {from(0, 199), from(1, 200), from(-1, 2)};
      case "scatter":
        return new int[] {from(0, 1000000), from(0, 100)};
      case "image":
      case "back":
        return new int[] {from(0, 1)};
      case "count":
        return new int[] {from(0, 11)};
      default:
        return new int[0];
    }
  }

  private int text() {
    return random.nextInt(3) == 0 ? from(0, 7) : from(0, 2);
  }

  /** A scheme by which some books have seats. */
  String scheme() {
    return SCHEMES[random.nextInt(SCHEMES.length)];
  }

  /** What stands on a tape for a text. */
  String textBytes() {
    StringBuilder made = new StringBuilder();
    int kind = random.nextInt(10);
    if (kind < 4) {
      made.append(scheme());
    } else {
      int clauses = kind == 9 ? 10 + random.nextInt(5) : 1 + random.nextInt(4);
      for (int n = 0; n < clauses; n++) {
        made.append(n == 0 ? "" : ";").append(clause(kind == 8 ? 7 : 2));
      }
    }
    if (random.nextInt(4) == 0) {
      spoil(made);
    }
    made.setLength(Math.min(made.length(), 400));
    return made.toString();
  }

  private void spoil(StringBuilder made) {
    String signs = "abif019 ;[]()<>=+-*/\t~";
    int at = random.nextInt(made.length() + 1);
    char sign = signs.charAt(random.nextInt(signs.length()));
    int kind = random.nextInt(3);
    if (kind == 0 || at == made.length()) {
      made.insert(at, sign);
    } else if (kind == 1) {
      made.setCharAt(at, sign);
    } else {
      made.delete(at, Math.min(made.length(), at + 1 + random.nextInt(4)));
    }
  }

  private String clause(int depth) {
    String head = random.nextInt(6) == 0 ? "false" : HEADS[random.nextInt(4)] + gap() + sum(depth);
    return random.nextInt(2) == 0 ? head : head + " if " + test(depth);
  }

  private String gap() {
    return " ".repeat(1 + random.nextInt(8) / 7);
  }

  private String sum(int depth) {
    StringBuilder made = new StringBuilder(part(depth));
    int more = depth <= 0 ? 0 : random.nextInt(3);
    for (int n = 0; n < more; n++) {
      made.append("+-*/".charAt(random.nextInt(4))).append(part(depth - 1));
    }
    return made.toString();
  }

  private String part(int depth) {
    int kind = random.nextInt(depth > 0 ? 10 : 7);
    if (kind >= 7) {
      return "[" + sum(depth - 1) + "]";
    }
    if (kind >= 4) {
      int[] numbers = {0, 1, 2, 3, 10, 99, 1000, 1001};
      return Integer.toString(numbers[random.nextInt(random.nextInt(20) == 0 ? 8 : 7)]);
    }
    List<String> facts = OracleText.FACTS;
    return facts.get(random.nextInt(facts.size()));
  }

  private String test(int depth) {
    int kind = random.nextInt(depth > 0 ? 10 : 4);
    if (kind < 4) {
      return sum(depth - 1) + "<>=".charAt(random.nextInt(3)) + sum(depth - 1);
    }
    if (kind == 4) {
      return "not " + test(depth - 1);
    }
    if (kind < 7) {
      return "(" + test(depth - 1) + ")";
    }
    return test(depth - 1) + (random.nextBoolean() ? " or " : " and ") + test(depth - 1);
  }

  /** What stands on a tape for a row of books. */
  String rowBytes() {
    StringBuilder made = new StringBuilder();
    int rows = 1 + random.nextInt(4);
    for (int n = 0; n < rows; n++) {
      for (int value : withMark(came(), from(1, 30), from(1, 40))) {
        made.append((char) (value & 255));
      }
    }
    made.setLength(made.length() - (random.nextInt(4) == 0 ? random.nextInt(5) : 0));
    return made.toString();
  }
}
