import java.math.BigInteger;
import java.util.ArrayList;
import java.util.Arrays;
import java.util.HashMap;
import java.util.List;
import java.util.Map;
import java.util.TreeMap;

/** A second program of the document, as plain as can be: all is looked for anew at each call. */
final class Oracle {
  private static final int NONE = -1;
  private static final int NOTHING = -1000;
  private static final int[] LEAST = {0, 1, 0, 1, 1, 0, 0, 0, 0, 0, 0, 0};
  private static final int[] MOST = {8, 99, 199, 30, 40, 2, 40, 9, 9, 999, 7, 11};

  /** What images keep. */
  private static final class State {
    List<int[]> books = new ArrayList<>();
    List<int[]> lines = new ArrayList<>();
    List<OracleText> texts = new ArrayList<>();
    List<Integer> stack = new ArrayList<>();
    int[] kept = null;
    int[] sides = new int[9];
    int[][] shelves = new int[54][];
    int[][] binders = new int[10][];
    int[][] houses = new int[12][];

    State() {
      Arrays.setAll(shelves, n -> new int[] {100, 40});
      Arrays.setAll(binders, n -> new int[] {0, 199});
      Arrays.setAll(houses, n -> new int[] {0, 0, 1});
    }

    State copy() {
      State other = new State();
      books.forEach(b -> other.books.add(b.clone()));
      lines.forEach(l -> other.lines.add(l.clone()));
      other.texts.addAll(texts);
      other.stack.addAll(stack);
      other.kept = kept;
      other.sides = sides.clone();
      Arrays.setAll(other.shelves, n -> shelves[n].clone());
      Arrays.setAll(other.binders, n -> binders[n].clone());
      Arrays.setAll(other.houses, n -> houses[n].clone());
      return other;
    }
  }

  /** A SEAT. */
  record Seat(int bay, int shelf, int place) {}

  private State s = new State();
  private final State[] images = new State[2];
  private StringBuilder tape = new StringBuilder();
  private int rebound = 0;
  private int fault = NONE;
  private Map<Integer, Integer> world = null;
  private int status = 0;
  private final Map<Integer, Integer> refused = new HashMap<>();

  private int refuse(int why) {
    status = why;
    refused.merge(why, 1, Integer::sum);
    return why;
  }

  private int fine(int answer) {
    status = 0;
    return answer;
  }

  private static boolean in(int value, int from, int to) {
    return from <= value && value <= to;
  }

  private static boolean can(int fact, int value) {
    return in(value, LEAST[fact], MOST[fact]);
  }

  private static boolean markOrNone(int letter, int number) {
    return letter == NONE && number == NONE || can(0, letter) && can(1, number);
  }

  private boolean isBook(int book) {
    return in(book, 0, s.books.size() - 1);
  }

  private boolean isText(int text) {
    return in(text, 0, s.texts.size() - 1);
  }

  private boolean isLine(int line) {
    return in(line, 0, s.lines.size() - 1);
  }

  private static boolean isShelf(int bay, int shelf) {
    return in(bay, 0, 8) && in(shelf, 0, 5);
  }

  private boolean hasMark(int book) {
    return s.books.get(book)[0] != NONE;
  }

  public int book(int letter, int number, int came, int thick, int tall) {
    if (!markOrNone(letter, number) || !can(2, came) || !can(3, thick) || !can(4, tall)) {
      return refuse(-1);
    }
    if (s.books.size() == 40) {
      return refuse(-5);
    }
    s.books.add(new int[] {letter, number, came, thick, tall, 0, 0, 0, 0, 0, 0, 0});
    return fine(s.books.size() - 1);
  }

  public int fact(int book, int fact, int value) {
    if (!in(fact, 2, 11) || !can(fact, value)) {
      return refuse(-1);
    }
    if (!isBook(book)) {
      return refuse(-2);
    }
    int was = s.books.get(book)[fact];
    s.books.get(book)[fact] = value;
    return fine(was);
  }

  public int mark(int book, int letter, int number) {
    if (!markOrNone(letter, number)) {
      return refuse(-1);
    }
    if (!isBook(book)) {
      return refuse(-2);
    }
    s.books.get(book)[0] = letter;
    s.books.get(book)[1] = number;
    return fine(0);
  }

  public int of(int book, int fact) {
    return isBook(book) && in(fact, 0, 11) ? s.books.get(book)[fact] : NOTHING;
  }

  public int bay(int bay, int side) {
    if (!in(bay, 0, 8) || !in(side, 0, 2)) {
      return refuse(-1);
    }
    int was = s.sides[bay];
    s.sides[bay] = side;
    return fine(was);
  }

  public int shelf(int bay, int shelf, int wide, int high) {
    if (!isShelf(bay, shelf) || !in(wide, 1, 400) || !in(high, 1, 60)) {
      return refuse(-1);
    }
    s.shelves[bay * 6 + shelf] = new int[] {wide, high};
    return fine(0);
  }

  public int feed(int a, int b, int c, int d, int e) {
    if (tape.length() > 380) {
      return NONE;
    }
    for (int four : new int[] {a, b, c, d, e}) {
      for (byte one : BigInteger.valueOf(four & 0xffffffffL | 1L << 32).toByteArray()) {
        tape.append((char) (one & 255));
      }
      tape.deleteCharAt(tape.length() - 5);
    }
    return tape.length();
  }

  public int end(int n) {
    if (!in(n, 0, tape.length())) {
      return NONE;
    }
    tape.setLength(n);
    return n;
  }

  public int row() {
    if (tape.length() == 0) {
      return refuse(-6);
    }
    String bytes = tape.toString();
    tape.setLength(0);
    rebound = 0;
    int came = 0;
    int wasStatus = status;
    Map<Integer, Integer> wasRefused = new HashMap<>(refused);
    for (int at = 0; at < bytes.length(); at += 5) {
      String five = bytes.substring(at, Math.min(at + 5, bytes.length()));
      boolean added = five.length() == 5
          && book(five.charAt(0), five.charAt(1), five.charAt(2), five.charAt(3), five.charAt(4)) >= 0;
      came += added ? 1 : 0;
      rebound += added ? 0 : 1;
    }
    status = wasStatus;
    refused.clear();
    refused.putAll(wasRefused);
    return fine(came);
  }

  public int rebound() {
    return rebound;
  }

  public int text() {
    String bytes = tape.toString();
    tape.setLength(0);
    if (s.texts.size() == 8) {
      return refuse(-5);
    }
    try {
      s.texts.add(new OracleText(bytes));
      fault = NONE;
      return fine(s.texts.size() - 1);
    } catch (OracleText.Fault f) {
      fault = f.place;
      return refuse(-6);
    }
  }

  public int fault() {
    return fault;
  }

  private Seat seatBy(int text, int book) {
    if (!hasMark(book)) {
      return null;
    }
    int[] facts = s.books.get(book);
    Long bay = s.texts.get(text).told("bay", facts);
    Long shelf = s.texts.get(text).told("shelf", facts);
    Long place = s.texts.get(text).told("place", facts);
    shelf = shelf == null ? Long.valueOf(0) : shelf;
    if (bay == null || place == null || bay < 0 || bay > 8 || shelf < 0 || shelf > 5 || place < 1 || place > 99) {
      return null;
    }
    return new Seat(bay.intValue(), shelf.intValue(), place.intValue());
  }

  private boolean right(int book, Seat seat) {
    int side = s.sides[seat.bay];
    int hole = s.books.get(book)[5];
    boolean other = side == 1 && hole == 2 || side == 2 && hole == 1;
    return s.books.get(book)[4] <= s.shelves[seat.bay * 6 + seat.shelf][1] && !other;
  }

  public int seat(int text, int book, int what) {
    if (!isText(text) || !isBook(book) || !in(what, 0, 3)) {
      return NONE;
    }
    Seat seat = seatBy(text, book);
    if (seat == null) {
      return NONE;
    }
    return new int[] {seat.bay, seat.shelf, seat.place, right(book, seat) ? 1 : 0}[what];
  }

  private Seat seatIn(int[] history, int book) {
    return seatBy(s.books.get(book)[2] < history[2] ? history[0] : history[1], book);
  }

  /** Those that STAND, by their SEATS. */
  private Map<Seat, Integer> standing(int[] history) {
    Map<Seat, Integer> standing = new HashMap<>();
    for (int book = 0; book < s.books.size(); book++) {
      Seat seat = seatIn(history, book);
      if (seat != null && right(book, seat)) {
        standing.putIfAbsent(seat, book);
      }
    }
    return standing;
  }

  public int stand(int first, int second, int year) {
    if (!isText(first) || !isText(second) || !in(year, 0, 200)) {
      return NONE;
    }
    return standing(new int[] {first, second, year}).size();
  }

  public int best(int what) {
    if (s.texts.isEmpty() || !in(what, 0, 4)) {
      return NONE;
    }
    int n = s.books.size();
    Seat[][] seats = new Seat[s.texts.size()][n];
    for (int t = 0; t < s.texts.size(); t++) {
      for (int b = 0; b < n; b++) {
        Seat seat = seatBy(t, b);
        seats[t][b] = seat != null && right(b, seat) ? seat : null;
      }
    }
    int[] best = null;
    for (int first = 0; first < s.texts.size(); first++) {
      for (int second = 0; second < s.texts.size(); second++) {
        for (int year = 0; year <= 200; year++) {
          java.util.Set<Seat> taken = new java.util.HashSet<>();
          for (int b = 0; b < n; b++) {
            Seat seat = seats[s.books.get(b)[2] < year ? first : second][b];
            if (seat != null) {
              taken.add(seat);
            }
          }
          if (best == null || taken.size() > best[0]) {
            best = new int[] {taken.size(), first, second, year, 1};
          } else if (taken.size() == best[0]) {
            best[4]++;
          }
        }
      }
    }
    return best[what];
  }

  public int keep(int first, int second, int year) {
    if (!in(year, 0, 200)) {
      return refuse(-1);
    }
    if (!isText(first) || !isText(second)) {
      return refuse(-2);
    }
    s.kept = new int[] {first, second, year};
    return fine(standing(s.kept).size());
  }

  public int how(int book) {
    if (s.kept == null || !isBook(book)) {
      return NONE;
    }
    if (!hasMark(book)) {
      return 0;
    }
    Seat seat = seatIn(s.kept, book);
    if (seat == null) {
      return 1;
    }
    if (!right(book, seat)) {
      return 2;
    }
    return standing(s.kept).get(seat) == book ? 4 : 3;
  }

  /** Those on a SHELF by PLACES; null without a KEPT HISTORY, or such a SHELF. */
  private TreeMap<Integer, Integer> onShelf(int bay, int shelf) {
    if (s.kept == null || !isShelf(bay, shelf)) {
      return null;
    }
    TreeMap<Integer, Integer> there = new TreeMap<>();
    standing(s.kept).forEach((seat, book) -> {
      if (seat.bay == bay && seat.shelf == shelf) {
        there.put(seat.place, book);
      }
    });
    return there;
  }

  public int on(int bay, int shelf, int i) {
    TreeMap<Integer, Integer> there = onShelf(bay, shelf);
    if (there == null || !in(i, 0, there.size() - 1)) {
      return NONE;
    }
    return new ArrayList<>(there.values()).get(i);
  }

  public int free(int bay, int shelf) {
    TreeMap<Integer, Integer> there = onShelf(bay, shelf);
    if (there == null) {
      return NOTHING;
    }
    return s.shelves[bay * 6 + shelf][0] - there.values().stream().mapToInt(b -> s.books.get(b)[3]).sum();
  }

  public int gap(int bay, int shelf, int i, int what) {
    TreeMap<Integer, Integer> there = onShelf(bay, shelf);
    if (there == null || !in(what, 0, 1)) {
      return NONE;
    }
    List<int[]> gaps = new ArrayList<>();
    int places = 0;
    for (int place = 1; place <= 99; place++) {
      if (there.containsKey(place) || there.higherKey(place) == null) {
        continue;
      }
      if (place == 1 || there.containsKey(place - 1)) {
        gaps.add(new int[] {place, 0});
      }
      gaps.get(gaps.size() - 1)[1]++;
      places++;
    }
    if (i == NONE) {
      return what == 0 ? gaps.size() : places;
    }
    return in(i, 0, gaps.size() - 1) ? gaps.get(i)[what] : NONE;
  }

  public int could(int bay, int shelf, int slack, int line) {
    int free = free(bay, shelf);
    if (onShelf(bay, shelf) == null || !in(slack, 0, 400) || line != NONE && !isLine(line)) {
      return NONE;
    }
    int[] first = firstMatch();
    int count = 0;
    for (int set = 0; set < 1 << s.lines.size(); set++) {
      int thick = 0;
      boolean missing = true;
      for (int l = 0; l < s.lines.size(); l++) {
        if ((set >> l & 1) == 1) {
          thick += s.lines.get(l)[2];
          int at = l;
          missing &= Arrays.stream(first).noneMatch(has -> has == at);
        }
      }
      if (missing && thick <= free && thick >= free - slack && (line == NONE || (set >> line & 1) == 1)) {
        count++;
      }
    }
    return count;
  }

  public int line(int word, int subject, int thick, int letter, int number) {
    if (!can(9, word) || !can(10, subject) || !can(3, thick) || !markOrNone(letter, number)) {
      return refuse(-1);
    }
    if (s.lines.size() == 12) {
      return refuse(-5);
    }
    s.lines.add(new int[] {word, subject, thick, letter, number, 0});
    return fine(s.lines.size() - 1);
  }

  public int list(int line, int list) {
    if (!in(list, 0, 3)) {
      return refuse(-1);
    }
    if (!isLine(line)) {
      return refuse(-2);
    }
    int was = s.lines.get(line)[5];
    s.lines.get(line)[5] = list;
    return fine(was);
  }

  private static int pairs(List<int[]> pairs, int what, int i) {
    if (what == 0) {
      return pairs.size();
    }
    return in(what, 1, 2) && in(i, 0, pairs.size() - 1) ? pairs.get(i)[what - 1] : NONE;
  }

  public int fights(int what, int i) {
    List<int[]> found = new ArrayList<>();
    for (int a = 0; a < s.lines.size(); a++) {
      for (int b = a + 1; b < s.lines.size(); b++) {
        int[] one = s.lines.get(a);
        int[] other = s.lines.get(b);
        boolean marks = one[3] != NONE && other[3] != NONE;
        boolean mark = marks && one[3] == other[3] && one[4] == other[4];
        boolean word = one[0] == other[0];
        if (one[5] != other[5] && (mark && !word || word && marks && !mark)) {
          found.add(new int[] {a, b});
        }
      }
    }
    return pairs(found, what, i);
  }

  public int wanting(int letter, int what, int i) {
    if (!in(letter, 0, 8) || !in(what, 0, 2)) {
      return NONE;
    }
    List<Integer> numbers = new ArrayList<>();
    s.books.stream().filter(b -> b[0] == letter).forEach(b -> numbers.add(b[1]));
    List<Integer> wanting = new ArrayList<>();
    int greatest = numbers.stream().mapToInt(n -> n).max().orElse(0);
    for (int n = 1; n <= greatest; n++) {
      if (!numbers.contains(n)) {
        wanting.add(n);
      }
    }
    if (what == 0) {
      return wanting.size();
    }
    if (what == 2) {
      return numbers.size();
    }
    return in(i, 0, wanting.size() - 1) ? wanting.get(i) : NONE;
  }

  public int runs(int letter) {
    if (!in(letter, 0, 8)) {
      return NOTHING;
    }
    int up = 0;
    for (int[] low : s.books) {
      for (int[] high : s.books) {
        if (low[0] == letter && high[0] == letter && low[5] > 0 && high[5] > 0 && low[1] < high[1]) {
          up += high[6] > low[6] ? 1 : 0;
          up -= high[6] < low[6] ? 1 : 0;
        }
      }
    }
    return up;
  }

  public int binder(int star, int from, int to) {
    if (!in(star, 0, 9) || !in(from, 0, 199) || !in(to, 0, 199) || to < from) {
      return refuse(-1);
    }
    s.binders[star] = new int[] {from, to};
    return fine((int) s.books.stream().filter(b -> b[7] == star && !in(b[2], from, to)).count());
  }

  public int bound(int book) {
    if (!isBook(book)) {
      return NOTHING;
    }
    int[] b = s.books.get(book);
    return b[2] > s.binders[b[7]][1] ? 1 : b[2] < s.binders[b[7]][0] ? -1 : 0;
  }

  public int nearest(int book, int what) {
    if (s.kept == null || !isBook(book) || !in(what, 0, 3) || how(book) == 4) {
      return NONE;
    }
    int[] own = s.books.get(book);
    int[] found = null;
    for (Map.Entry<Seat, Integer> e : standing(s.kept).entrySet()) {
      int[] other = s.books.get(e.getValue());
      Seat seat = e.getKey();
      if (free(seat.bay, seat.shelf) >= own[3]) {
        int[] row = {Math.abs(own[8] - other[8]), own[7] == other[7] ? 0 : 1, e.getValue(), seat.bay, seat.shelf};
        if (found == null || Arrays.compare(row, found) < 0) {
          found = row;
        }
      }
    }
    return found == null ? NONE : found[new int[] {2, 3, 4, 0}[what]];
  }

  public int close(int bay, int shelf) {
    if (bay == NONE && shelf == NONE && s.kept != null) {
      int all = 0;
      for (int n = 0; n < 54; n++) {
        all += close(n / 6, n % 6);
      }
      return all;
    }
    TreeMap<Integer, Integer> there = onShelf(bay, shelf);
    if (there == null) {
      return NONE;
    }
    List<Integer> row = new ArrayList<>(there.values());
    int close = 0;
    for (int i = 0; i + 1 < row.size(); i++) {
      close += Math.abs(s.books.get(row.get(i))[8] - s.books.get(row.get(i + 1))[8]) <= 1 ? 1 : 0;
    }
    return close;
  }

  public int agree(int line, int book) {
    if (!isLine(line) || !isBook(book)) {
      return NOTHING;
    }
    int[] l = s.lines.get(line);
    int[] b = s.books.get(book);
    int sum = l[0] == b[9] ? 8 : 0;
    sum += l[1] == b[10] ? 3 : 0;
    sum += in(l[2] - b[3], -2, 2) ? 2 : 0;
    if (l[3] != NONE && b[0] != NONE) {
      sum += l[3] == b[0] && l[4] == b[1] ? 4 : -6;
    }
    return sum;
  }

  /** The best sum of BOOKS from one on with LINES left, and in how many ways; forced: one BOOK's LINE. */
  private final class Ways {
    private final Map<Integer, Integer> sums = new HashMap<>();
    private final Map<Integer, BigInteger> counts = new HashMap<>();
    private final int forcedBook;
    private final int forcedLine;

    Ways(int forcedBook, int forcedLine) {
      this.forcedBook = forcedBook;
      this.forcedLine = forcedLine;
    }

    int sum(int book, int used) {
      solve(book, used);
      return sums.get(book << 12 | used);
    }

    BigInteger count(int book, int used) {
      solve(book, used);
      return counts.get(book << 12 | used);
    }

    private void solve(int book, int used) {
      int key = book << 12 | used;
      if (sums.containsKey(key)) {
        return;
      }
      int best = -1_000_000;
      BigInteger ways = BigInteger.ZERO;
      if (book == s.books.size()) {
        best = 0;
        ways = BigInteger.ONE;
      } else {
        for (int line = NONE; line < s.lines.size(); line++) {
          if (line != NONE && (used >> line & 1) == 1 || book == forcedBook && line != forcedLine) {
            continue;
          }
          int then = line == NONE ? used : used | 1 << line;
          int sum = sum(book + 1, then) + (line == NONE ? 0 : agree(line, book));
          if (sum > best) {
            best = sum;
            ways = BigInteger.ZERO;
          }
          if (sum == best) {
            ways = ways.add(count(book + 1, then));
          }
        }
      }
      sums.put(key, best);
      counts.put(key, ways);
    }
  }

  private int[] firstMatch() {
    Ways ways = new Ways(NONE, NONE);
    int[] first = new int[s.books.size()];
    int used = 0;
    for (int book = 0; book < first.length; book++) {
      first[book] = NONE;
      for (int line = s.lines.size() - 1; line >= 0; line--) {
        if ((used >> line & 1) == 0
            && agree(line, book) + ways.sum(book + 1, used | 1 << line) == ways.sum(book, used)) {
          first[book] = line;
        }
      }
      used |= first[book] == NONE ? 0 : 1 << first[book];
    }
    return first;
  }

  private int given() {
    return (int) Arrays.stream(firstMatch()).filter(line -> line != NONE).count();
  }

  public int match(int what) {
    Ways ways = new Ways(NONE, NONE);
    if (what == 0) {
      return ways.sum(0, 0);
    }
    if (what == 1) {
      return ways.count(0, 0).min(BigInteger.valueOf(1_000_000_000)).intValue();
    }
    return what == 2 ? given() : NONE;
  }

  public int matched(int book, int what) {
    if (!isBook(book) || !in(what, 0, 1)) {
      return NONE;
    }
    int line = firstMatch()[book];
    if (what == 0) {
      return line;
    }
    Ways all = new Ways(NONE, NONE);
    Ways with = new Ways(book, line);
    return all.count(0, 0).equals(with.count(0, 0)) ? 2 : 1;
  }

  private int oursOf(int text, int book) {
    Long told = s.texts.get(text).told("ours", s.books.get(book));
    return told == null ? 0 : (int) Math.max(0, Math.min(1000, told));
  }

  public int ours(int text, int book, int other) {
    if (!isText(text) || !isBook(book) || other != NONE && !isBook(other)) {
      return NONE;
    }
    if (other == NONE) {
      return oursOf(text, book);
    }
    int both = oursOf(text, book) + oursOf(text, other);
    return both == 0 ? 0 : 100 * oursOf(text, book) / both;
  }

  public int untrue(int text, int what, int i) {
    if (!isText(text) || !in(what, 0, 1)) {
      return NONE;
    }
    List<Integer> found = new ArrayList<>();
    for (int book = 0; book < s.books.size(); book++) {
      if (s.texts.get(text).told("false", s.books.get(book)) != null) {
        found.add(book);
      }
    }
    if (what == 0) {
      return found.size();
    }
    return in(i, 0, found.size() - 1) ? found.get(i) : NONE;
  }

  public int twice(int what, int i) {
    List<int[]> found = new ArrayList<>();
    for (int a = 0; a < s.books.size(); a++) {
      for (int b = a + 1; b < s.books.size(); b++) {
        if (hasMark(a) && s.books.get(a)[0] == s.books.get(b)[0] && s.books.get(a)[1] == s.books.get(b)[1]) {
          found.add(new int[] {a, b});
        }
      }
    }
    return pairs(found, what, i);
  }

  public int stack(int book) {
    if (!isBook(book)) {
      return refuse(-2);
    }
    if (s.stack.contains(book)) {
      return refuse(-3);
    }
    if (s.stack.size() == 9) {
      return refuse(-5);
    }
    s.stack.add(book);
    return fine(s.stack.size());
  }

  public int clear() {
    int had = s.stack.size();
    s.stack.clear();
    return had;
  }

  private int leastSum;
  private List<Integer> leastRow;

  private void rowsFrom(List<Integer> row, List<Integer> rest, int sum) {
    if (sum >= leastSum) {
      return;
    }
    if (rest.isEmpty()) {
      leastSum = sum;
      leastRow = new ArrayList<>(row);
      return;
    }
    for (Integer book : rest) {
      int more = 0;
      if (!row.isEmpty()) {
        int[] a = s.books.get(row.get(row.size() - 1));
        int[] b = s.books.get(book);
        more = Math.abs(a[8] - b[8]) + (a[7] == b[7] ? 0 : 2);
      }
      List<Integer> others = new ArrayList<>(rest);
      others.remove(book);
      row.add(book);
      rowsFrom(row, others, sum + more);
      row.remove(row.size() - 1);
    }
  }

  public int beside(int i) {
    if (s.stack.isEmpty() || !in(i, NONE, s.stack.size() - 1)) {
      return NONE;
    }
    leastSum = Integer.MAX_VALUE;
    rowsFrom(new ArrayList<>(), s.stack.stream().sorted().toList(), 0);
    return i == NONE ? leastSum : leastRow.get(i);
  }

  public int house(int house, int all, int looked, int cost) {
    if (!in(house, 0, 11) || !in(all, 0, 5000) || !in(looked, 0, all) || !in(cost, 1, 100)) {
      return refuse(-1);
    }
    s.houses[house] = new int[] {all, looked, cost};
    return fine(0);
  }

  private long foundTimes(int house) {
    long found = s.books.stream().filter(b -> b[11] == house).count();
    return found * (s.houses[house][0] - s.houses[house][1]);
  }

  public int expect(int house) {
    if (!in(house, 0, 11) || s.houses[house][1] == 0) {
      return NONE;
    }
    return (int) (100 * foundTimes(house) / s.houses[house][1]);
  }

  public int next() {
    int found = NONE;
    for (int h = 11; h >= 0; h--) {
      if (s.houses[h][1] == 0) {
        continue;
      }
      if (found == NONE) {
        found = h;
        continue;
      }
      BigInteger here = BigInteger.valueOf(foundTimes(h)).multiply(by(found));
      BigInteger there = BigInteger.valueOf(foundTimes(found)).multiply(by(h));
      found = here.compareTo(there) >= 0 ? h : found;
    }
    return found;
  }

  private BigInteger by(int house) {
    return BigInteger.valueOf(s.houses[house][1]).multiply(BigInteger.valueOf(s.houses[house][2]));
  }

  private int marked() {
    return (int) s.books.stream().filter(b -> b[0] != NONE).count();
  }

  public int left(int what) {
    if (!in(what, 0, 1)) {
      return NONE;
    }
    int given = given();
    if (what == 1) {
      return marked() + s.lines.size() - given;
    }
    return given == 0 ? NONE : marked() * s.lines.size() / given;
  }

  public int grew(int year, int years, int subject) {
    if (!in(year, 0, 199) || !in(years, 1, 200) || !in(subject, NONE, 7)) {
      return NONE;
    }
    return (int) s.books.stream().filter(b -> in(b[2], year, year + years - 1))
        .filter(b -> subject == NONE || b[10] == subject).count();
  }

  public int scatter(int seed, int burn) {
    if (!in(seed, 0, 1_000_000) || !in(burn, 0, 100)) {
      return refuse(-1);
    }
    world = new HashMap<>();
    long state = seed;
    for (int book = 0; book < s.books.size(); book++) {
      state = (state * 1103 + 12345) % 1_000_003;
      if (state % 100 >= burn) {
        state = (state * 1103 + 12345) % 1_000_003;
        world.put(book, (int) (state % 12));
      }
    }
    return fine(s.books.size() - world.size());
  }

  public int went(int book) {
    return world == null ? NONE : world.getOrDefault(book, NONE);
  }

  public int together(int bay, int shelf) {
    TreeMap<Integer, Integer> there = onShelf(bay, shelf);
    if (there == null || world == null) {
      return NONE;
    }
    int[] counts = new int[12];
    there.values().stream().filter(b -> went(b) != NONE).forEach(b -> counts[went(b)]++);
    return Arrays.stream(counts).filter(n -> n >= 2).sum();
  }

  public int image(int k) {
    if (!in(k, 0, 1)) {
      return refuse(-1);
    }
    images[k] = s.copy();
    return fine(0);
  }

  public int back(int k) {
    if (!in(k, 0, 1)) {
      return refuse(-1);
    }
    if (images[k] == null) {
      return refuse(-2);
    }
    s = images[k].copy();
    return fine(0);
  }

  public int count(int what) {
    if (!in(what, 0, 11)) {
      return NONE;
    }
    if (what >= 7) {
      return refused.getOrDefault(new int[] {-1, -2, -3, -5, -6}[what - 7], 0);
    }
    int stand = s.kept == null ? 0 : standing(s.kept).size();
    return new int[] {s.books.size(), marked(), s.texts.size(), s.lines.size(), s.stack.size(), stand,
        tape.length()}[what];
  }

  public int status() {
    return status;
  }
}
