/** Runs of drawn calls on RedMarks and on the Oracle: both have to answer alike. */
public final class RandomRunsTest {
  /** An object has 512 calls; a text of 400 bytes takes 24 of them. */
  private static final int CALLS = 512 - 24;
  private static final String[] MAKING = {"book", "book", "book", "book", "fact", "fact", "fact", "fact",
      "fact", "fact", "mark", "bay", "shelf", "shelf", "TEXT", "ROW", "keep", "keep", "line", "line", "list",
      "binder", "stack", "stack", "stack", "house", "house", "scatter"};
  private static final String[] ODD = {"feed", "end", "row", "text", "clear", "rebound", "fault", "status",
      "image", "back"};
  private static final String[] ASKING = {"of", "seat", "seat", "stand", "how", "on", "on", "free",
      "gap", "gap", "could", "fights", "wanting", "runs", "bound", "nearest", "nearest", "close", "agree",
      "ours", "untrue", "twice", "beside", "beside", "expect", "next", "grew", "went",
      "together", "count", "count", "status"};
  private static final String[] DEAR = {"best", "match", "matched", "left", "could"};

  private static final Due due = new Due("RandomRunsTest");

  public static void main(String[] args) throws Exception {
    due.part("faces");
    due.holds("the oracle has the same calls", Pair.haveTheSameCalls());
    int runs = Integer.getInteger("runs", 220);
    int from = Integer.getInteger("from", 0);
    for (int seed = from; seed < from + runs; seed++) {
      run(seed, seed % 20 == 19);
    }
    due.finish();
  }

  private static void run(int seed, boolean large) throws IllegalAccessException {
    due.part("run " + seed);
    RunMaker maker = new RunMaker(seed, large);
    Pair pair = new Pair(due);
    if (seed % 10 != 0) {
      begin(maker, pair);
    }
    while (pair.calls.size() < CALLS && pair.isAlike()) {
      String name = pick(maker, pair.calls.size(), large);
      if (name.equals("TEXT")) {
        pair.call("end", 0);
        pair.tape(maker.textBytes());
        pair.call("text");
        pair.call("fault");
      } else if (name.equals("ROW")) {
        pair.call("end", 0);
        pair.tape(maker.rowBytes());
        pair.call("row");
        pair.call("rebound");
      } else {
        pair.call(name, maker.arguments(name));
      }
    }
    pair.tellIfUnlike();
  }

  /** Most runs begin with a library of which much can be asked. */
  private static void begin(RunMaker maker, Pair pair) throws IllegalAccessException {
    for (int n = 0; n < 3; n++) {
      pair.tape(maker.scheme());
      pair.call("text");
    }
    for (int n = 0; n < maker.books; n++) {
      pair.call("book", maker.arguments("book"));
    }
    for (int n = 0; n < 4 * maker.books; n++) {
      pair.call("fact", maker.arguments("fact"));
    }
    for (int n = 0; n < maker.lines; n++) {
      pair.call("line", maker.arguments("line"));
      pair.call("list", maker.arguments("list"));
    }
    pair.call("keep", maker.arguments("keep"));
    pair.call("scatter", maker.arguments("scatter"));
    pair.call("image", 0);
  }

  private static String pick(RunMaker maker, int called, boolean large) {
    int kind = maker.random.nextInt(large ? 400 : 100);
    if (kind < 4) {
      return from(maker, DEAR);
    }
    if (kind < 9) {
      return from(maker, ODD);
    }
    boolean making = maker.random.nextInt(100) < (called < 80 ? 70 : 35);
    return from(maker, making ? MAKING : ASKING);
  }

  private static String from(RunMaker maker, String[] names) {
    return names[maker.random.nextInt(names.length)];
  }
}
