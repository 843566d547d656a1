import java.util.ArrayList;
import java.util.Collections;
import java.util.HashMap;
import java.util.List;
import java.util.Map;
import java.util.Set;
import java.util.TreeMap;
import java.util.TreeSet;

/**
 * Runs of all the 512 calls that an object has, in which every call of the document stands some times, IMAGES
 * and BACK among them, in a drawn order, on RedMarks and on the Oracle.
 */
public final class MixedRunsTest {
  private static final int CALLS = 512;
  /** Each call so many times; texts and rows take some feeds and ends more. */
  private static final int EACH = 4;
  /** What makes a library of which much can be asked, and what goes back to one, comes so many times more. */
  private static final Map<String, Integer> MORE = Map.ofEntries(Map.entry("book", 6), Map.entry("fact", 20),
      Map.entry("line", 4), Map.entry("text", 4), Map.entry("row", 2), Map.entry("keep", 6), Map.entry("stack", 8),
      Map.entry("scatter", 2), Map.entry("image", 2), Map.entry("back", 4), Map.entry("house", 4));
  /** The calls that can be REFUSED, and what each is REFUSED by. */
  private static final Map<String, Set<Integer>> REFUSED = Map.ofEntries(Map.entry("book", Set.of(-1, -5)),
      Map.entry("fact", Set.of(-1, -2)), Map.entry("mark", Set.of(-1, -2)), Map.entry("bay", Set.of(-1)),
      Map.entry("shelf", Set.of(-1)), Map.entry("row", Set.of(-6)), Map.entry("text", Set.of(-5, -6)),
      Map.entry("keep", Set.of(-1, -2)), Map.entry("line", Set.of(-1, -5)), Map.entry("list", Set.of(-1, -2)),
      Map.entry("binder", Set.of(-1)), Map.entry("stack", Set.of(-2, -3, -5)), Map.entry("house", Set.of(-1)),
      Map.entry("scatter", Set.of(-1)), Map.entry("image", Set.of(-1)), Map.entry("back", Set.of(-1, -2)));

  private static final Due due = new Due("MixedRunsTest");
  private static final Map<String, Set<Integer>> answers = new TreeMap<>();
  private static final Map<String, Set<Integer>> refusals = new HashMap<>();
  private static int changes = 0;

  public static void main(String[] args) throws Exception {
    int runs = Integer.getInteger("runs", 100);
    int from = Integer.getInteger("from", 0);
    for (int seed = from; seed < from + runs; seed++) {
      run(seed);
    }
    lookedAt(runs);
    due.finish();
  }

  private static void run(int seed) throws IllegalAccessException {
    due.part("run " + seed);
    RunMaker maker = new RunMaker(seed, false);
    Pair pair = new Pair(due);
    if (seed % 10 == 0) {
      // the other runs seldom come so far that there is no room for more
      fill(maker, pair);
    }
    List<String> names = new ArrayList<>();
    for (String name : Pair.names()) {
      names.addAll(Collections.nCopies(EACH + MORE.getOrDefault(name, 0), name));
    }
    Collections.shuffle(names, maker.random);
    for (int n = 0; pair.calls.size() < CALLS && pair.isAlike(); n++) {
      // the deck is gone through until the last call is spent
      drawn(maker, pair, names.get(n % names.size()));
    }
    if (pair.isAlike()) {
      due.is("calls", pair.calls.size(), CALLS);
      due.is("of the document", called(pair), Pair.names().size());
    }
    pair.tellIfUnlike();
  }

  private static void fill(RunMaker maker, Pair pair) throws IllegalAccessException {
    for (int n = 0; n < 8; n++) {
      pair.tape("false if star=" + n);
      pair.call("text");
    }
    for (int n = 0; n < 38; n++) {
      pair.call("book", maker.arguments("book"));
    }
    for (int n = 0; n < 11; n++) {
      pair.call("line", maker.arguments("line"));
    }
    for (int n = 0; n < 7; n++) {
      pair.call("stack", n);
    }
  }

  private static long called(Pair pair) {
    return pair.calls.stream().map(call -> call.substring(0, call.indexOf('['))).distinct().count();
  }

  private static void drawn(RunMaker maker, Pair pair, String name) throws IllegalAccessException {
    String bytes = bytesFor(name, maker);
    int feeds = (bytes.length() + 19) / 20;
    if (feeds > 0 && !roomFor(pair, feeds + 3)) {
      return;
    }
    if (feeds > 0) {
      pair.call("end", 0);
      pair.tape(bytes);
    }
    String ahead = name.equals("back") && roomFor(pair, 13) ? holdings(pair) : "";
    note(name, pair.call(name, maker.arguments(name)));
    if (!ahead.isEmpty() && !ahead.equals(holdings(pair))) {
      changes++;
    }
  }

  /** What stands on the tape ahead of most texts and rows; the others are called on whatever stands there. */
  private static String bytesFor(String name, RunMaker maker) {
    if (maker.random.nextInt(4) == 0) {
      return "";
    }
    if (name.equals("row")) {
      return maker.rowBytes();
    }
    if (name.equals("text")) {
      return maker.random.nextInt(3) > 0 ? maker.scheme() : maker.textBytes();
    }
    return "";
  }

  private static boolean roomFor(Pair pair, int more) {
    return pair.calls.size() + more <= CALLS;
  }

  /** How many there are of each kind; an image kept ahead of some of them tells other numbers. */
  private static String holdings(Pair pair) throws IllegalAccessException {
    StringBuilder told = new StringBuilder();
    for (int what = 0; what < 6; what++) {
      told.append(pair.call("count", what)).append(' ');
    }
    return told.toString();
  }

  private static void note(String name, int answer) {
    answers.computeIfAbsent(name, n -> new TreeSet<>()).add(answer);
    if (REFUSED.containsKey(name) && REFUSED.get(name).contains(answer)) {
      refusals.computeIfAbsent(name, n -> new TreeSet<>()).add(answer);
    }
  }

  /** What the runs have to have come by, so that they are worth something. */
  private static void lookedAt(int runs) {
    due.part("all runs");
    due.holds("all calls: " + answers.keySet(), answers.keySet().equals(Pair.names()));
    answers.forEach((name, told) -> due.holds(name + " answered only " + told, told.size() > 1));
    REFUSED.forEach((name, by) -> due.is(name + " refused by " + refusals.get(name),
        refusals.getOrDefault(name, Set.of()).size(), by.size()));
    due.holds("BACK changed what is held " + changes + " times", changes > runs);
  }
}
