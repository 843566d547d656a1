import java.util.function.IntUnaryOperator;

/** Term I and promises 1 to 7 and 49 to 52: numbers, books, bays, images, counts. */
final class NumberEdges {
  private static final String[] FACTS = {"0 LETTER 0 .. 8, ", "1 NUMBER 1 .. 99 ", "2 CAME 0 .. 199, ",
      "3 THICK 1 .. 30, ", "4 TALL 1 .. 40, ", "5 HOLE 0 (none), 1 (left), 2 (right), ",
      "6 HEIGHT of the hole 0 .. 40, ", "7 STAR 0 .. 9, ", "8 DAMP 0 .. 9, ", "9 WORD 0 .. 999, ",
      "10 SUBJECT 0 .. 7, ", "11 HOUSE 0 .. 11 "};
  private static final int[] LEAST = {0, 1, 0, 1, 1, 0, 0, 0, 0, 0, 0, 0};
  private static final int[] MOST = {8, 99, 199, 30, 40, 2, 40, 9, 9, 999, 7, 11};

  private final Edges due;

  NumberEdges(Edges due) {
    this.due = due;
  }

  void all() {
    newObject();
    newObjectAnswers();
    constants();
    fortyBooks();
    factsOfBooks();
    factsAtFirst();
    marksOrNone();
    sides();
    shelvesOfBays();
    housesAtFirst();
    bookNumbers();
    factChanges();
    markChanges();
    ofAnswers();
    bayAnswers();
    shelfAnswers();
    imageAnswers();
    backAnswers();
    counts();
    countsOfRefusals();
    statuses();
    lastCall();
  }

  private void newObject() {
    due.sentence("1", "No BOOKS, TEXTS, LINES.");
    RedMarks x = new RedMarks();
    for (int what = 0; what <= 11; what++) {
      due.is("count(" + what + ")", x.count(what), 0);
    }
    due.is("of", x.of(0, 0), Edges.NOTHING);
    due.is("fact", x.fact(0, 2, 0), -2);
    due.is("mark", x.mark(0, 0, 1), -2);
    due.is("stack", x.stack(0), -2);
    due.is("bound", x.bound(0), Edges.NOTHING);
    due.is("matched", x.matched(0, 0), -1);
    due.is("nearest", x.nearest(0, 0), -1);
    due.is("seat", x.seat(0, 0, 0), -1);
    due.is("stand", x.stand(0, 0, 0), -1);
    due.is("best", x.best(0), -1);
    due.is("keep", x.keep(0, 0, 0), -2);
    due.is("ours", x.ours(0, 0, -1), -1);
    due.is("untrue", x.untrue(0, 0, 0), -1);
    due.is("list", x.list(0, 0), -2);
    due.is("agree", x.agree(0, 0), Edges.NOTHING);
    due.is("fights", x.fights(0, 0), 0);
    due.is("first of fights", x.fights(1, 0), -1);
    due.is("first book", x.book(0, 1, 0, 1, 1), 0);
    due.is("first text", due.newText(x, "false"), 0);
    due.is("first line", x.line(0, 0, 1, 0, 1), 0);
  }

  private void constants() {
    due.sentence("V", "The constants: `NONE = -1`: There is none.");
    due.is("NONE", RedMarks.NONE, -1);
    due.is("no text", new RedMarks().best(0), RedMarks.NONE);
  }

  private void newObjectAnswers() {
    due.sentence("1", "No BOOKS, TEXTS, LINES.");
    RedMarks x = new RedMarks();
    due.is("rebound", x.rebound(), 0);
    due.is("fault", x.fault(), -1);
    due.is("how", x.how(0), -1);
    due.is("on", x.on(0, 0, 0), -1);
    due.is("free", x.free(0, 0), Edges.NOTHING);
    due.is("gap", x.gap(0, 0, -1, 0), -1);
    due.is("could", x.could(0, 0, 400, -1), -1);
    due.is("close", x.close(-1, -1), -1);
    due.is("wanting", x.wanting(8, 0, 0), 0);
    due.is("first of wanting", x.wanting(8, 1, 0), -1);
    due.is("books of a letter", x.wanting(8, 2, 0), 0);
    due.is("runs", x.runs(8), 0);
    due.is("match", x.match(0), 0);
    due.is("one match: of nothing", x.match(1), 1);
    due.is("lines of it", x.match(2), 0);
    due.is("twice", x.twice(0, 0), 0);
    due.is("first of twice", x.twice(1, 0), -1);
    due.is("clear", x.clear(), 0);
    due.is("beside", x.beside(-1), -1);
    due.is("first beside", x.beside(0), -1);
    due.is("expect", x.expect(0), -1);
    due.is("next", x.next(), -1);
    due.is("left by counts", x.left(0), -1);
    due.is("left at least", x.left(1), 0);
    due.is("grew", x.grew(0, 200, -1), 0);
    due.is("went", x.went(0), -1);
    due.is("together", x.together(0, 0), -1);
    due.is("binder", x.binder(0, 5, 6), 0);
    due.is("scatter", x.scatter(0, 100), 0);
    due.is("image", x.image(0), 0);
  }

  static RedMarks books(int n) {
    RedMarks x = new RedMarks();
    for (int book = 0; book < n; book++) {
      x.book(0, 1, 0, 1, 1);
    }
    return x;
  }

  private void fortyBooks() {
    due.sentence("I", "BOOKS 0 .. 39 (40 at most): FACTS, by numbers: ");
    RedMarks x = books(39);
    due.is("39 books", x.count(0), 39);
    due.is("the last book is not there yet", x.of(39, 2), Edges.NOTHING);
    due.is("the last book", x.book(8, 99, 199, 30, 40), 39);
    due.is("it is there", x.of(39, 2), 199);
    due.is("no book behind it", x.book(0, 1, 0, 1, 1), -5);
    due.is("40 books", x.count(0), 40);
    due.range("of", 0, 39, Edges.NOTHING, book -> x.of(book, 2));
    due.range("fact", 0, 39, -2, book -> x.fact(book, 8, 3));
    due.range("mark", 0, 39, -2, book -> x.mark(book, 1, 2));
    due.range("bound", 0, 39, Edges.NOTHING, x::bound);
    RedMarks full = books(40);
    due.range("stack", 0, 39, -2, full::stack);
    due.range("matched", 0, 39, -1, book -> full.matched(book, 1));
  }

  private void factsOfBooks() {
    for (int f = 2; f < 12; f++) {
      due.sentence("I", FACTS[f]);
      int fact = f;
      RedMarks x = books(3);
      due.range("fact(1, " + f + ", ..)", LEAST[f], MOST[f], -1, value -> x.fact(1, fact, value));
      due.is("the last that was taken", x.of(1, f), MOST[f]);
      due.is("back to the least", x.fact(1, f, LEAST[f]), MOST[f]);
      due.is("the least", x.of(1, f), LEAST[f]);
      x.fact(1, f, MOST[f]);
      for (int other = 0; other < 12; other++) {
        int want = other == f ? MOST[f] : LEAST[other];
        due.is("fact " + other + " of the same book", x.of(1, other), want);
        due.is("fact " + other + " of the book ahead", x.of(0, other), LEAST[other]);
        due.is("fact " + other + " of the book behind", x.of(2, other), LEAST[other]);
      }
    }
    for (int f = 0; f < 5; f++) {
      due.sentence("I", FACTS[f]);
      int fact = f;
      RedMarks x = new RedMarks();
      due.range("book's " + f + ".", LEAST[f], MOST[f], -1, value -> bookWith(x, fact, value));
      due.is("the least", x.of(0, f), LEAST[f]);
      due.is("the most", x.of(1, f), MOST[f]);
      due.is("no others", x.count(0), 2);
    }
    for (int f = 0; f < 2; f++) {
      due.sentence("I", FACTS[f]);
      int fact = f;
      RedMarks x = books(1);
      due.range("mark's " + f + ".", LEAST[f], MOST[f], -1,
          value -> fact == 0 ? x.mark(0, value, 50) : x.mark(0, 4, value));
      due.is("the most", x.of(0, f), MOST[f]);
    }
  }

  private static int bookWith(RedMarks x, int fact, int value) {
    int[] facts = {4, 50, 100, 15, 20};
    facts[fact] = value;
    return x.book(facts[0], facts[1], facts[2], facts[3], facts[4]);
  }

  private void factsAtFirst() {
    due.sentence("I", "(0 all of them from 2 on at first, THICK, TALL 1).");
    RedMarks x = new RedMarks();
    x.book(8, 99, 199, 30, 40);
    int[] want = {8, 99, 199, 30, 40, 0, 0, 0, 0, 0, 0, 0};
    for (int f = 0; f < 12; f++) {
      due.is("fact " + f, x.of(0, f), want[f]);
    }
    Due.tape(x, "\u0008\u0063\u0000\u0001\u0001");
    x.row();
    for (int f = 2; f < 12; f++) {
      due.is("fact " + f + " of a row", x.of(1, f), f == 3 || f == 4 ? 1 : 0);
    }
  }

  private void marksOrNone() {
    due.sentence("I", "(a MARK; both NONE: without one)");
    RedMarks x = new RedMarks();
    due.is("both", x.book(-1, -1, 0, 1, 1), 0);
    due.is("letter", x.of(0, 0), -1);
    due.is("number", x.of(0, 1), -1);
    due.is("letter alone NONE", x.book(-1, 1, 0, 1, 1), -1);
    due.is("number alone NONE", x.book(0, -1, 0, 1, 1), -1);
    due.is("both -2", x.book(-2, -2, 0, 1, 1), -1);
    due.is("number 0 without a letter", x.book(-1, 0, 0, 1, 1), -1);
    due.is("with a mark", x.mark(0, 0, 1), 0);
    due.is("marks", x.count(1), 1);
    due.is("letter alone NONE", x.mark(0, -1, 1), -1);
    due.is("number alone NONE", x.mark(0, 0, -1), -1);
    due.is("still with it", x.count(1), 1);
    due.is("without", x.mark(0, -1, -1), 0);
    due.is("no marks", x.count(1), 0);
    due.is("a line of both", x.line(0, 0, 1, -1, -1), 0);
    due.is("a line, letter alone NONE", x.line(0, 0, 1, -1, 1), -1);
    due.is("a line, number alone NONE", x.line(0, 0, 1, 0, -1), -1);
  }

  private void sides() {
    due.sentence("I", "BAYS 0 .. 8: a SIDE 0 (any, at first), 1, 2.");
    RedMarks x = new RedMarks();
    for (int bay = 0; bay <= 8; bay++) {
      due.is("side of " + bay + " at first", x.bay(bay, 2), 0);
    }
    due.range("bay", 0, 8, -1, bay -> x.bay(bay, 1));
    due.range("side", 0, 2, -1, side -> x.bay(4, side));
    due.is("the last side", x.bay(4, 0), 2);
    due.is("the first bay's", x.bay(0, 0), 1);
    due.is("the last bay's", x.bay(8, 0), 1);
    due.is("another's", x.bay(5, 0), 2);
  }

  private void shelvesOfBays() {
    due.sentence("I", "SHELVES 0 .. 5 of each BAY: WIDE 1 .. 400 (100 at first), HIGH 1 .. 60 (40).");
    RedMarks x = new RedMarks();
    due.newText(x, "bay letter;shelf star;place number");
    x.keep(0, 0, 0);
    for (int shelf = 0; shelf < 54; shelf++) {
      due.is("free of an empty one at first", x.free(shelf / 6, shelf % 6), 100);
    }
    x.book(8, 1, 0, 1, 40);
    x.fact(0, 7, 5);
    due.is("40 tall stands at first", x.how(0), 4);
    due.is("high 39", x.shelf(8, 5, 400, 39), 0);
    due.is("40 tall is too tall", x.how(0), 2);
    due.is("free of wide 400", x.free(8, 5), 400);
    due.is("high 40, wide 1", x.shelf(8, 5, 1, 40), 0);
    due.is("it stands again", x.how(0), 4);
    due.is("free of wide 1", x.free(8, 5), 0);
    due.is("high 60", x.shelf(8, 5, 1, 60), 0);
    due.is("it stands there", x.how(0), 4);
    due.is("high 1", x.shelf(8, 5, 1, 1), 0);
    due.is("it does not", x.how(0), 2);
    due.is("the shelf ahead is as it was", x.free(8, 4), 100);
  }

  private void housesAtFirst() {
    due.sentence("I", "HOUSES 0 .. 11: ALL 0 .. 5000 books there, LOOKED at 0 .. ALL (0 at first), COST 1 .. 100 (1).");
    RedMarks x = books(1);
    for (int house = 0; house <= 11; house++) {
      due.is("not looked at: " + house, x.expect(house), -1);
    }
    due.range("house", 0, 11, -1, house -> x.house(house, 1, 1, 1));
    due.range("all", 0, 5000, -1, all -> x.house(2, all, 0, 1));
    due.range("looked at of 7", 0, 7, -1, looked -> x.house(2, 7, looked, 1));
    due.range("looked at of 0", 0, 0, -1, looked -> x.house(2, 0, looked, 1));
    due.range("looked at of 5000", 0, 5000, -1, looked -> x.house(2, 5000, looked, 1));
    due.range("cost", 1, 100, -1, cost -> x.house(2, 7, 1, cost));
    due.is("all, looked at, cost", x.house(0, 5000, 1, 100), 0);
    due.is("to be found", x.expect(0), 4999 * 100);
  }

  private void bookNumbers() {
    due.sentence("2", "A BOOK with a MARK (or LETTER, NUMBER both NONE): its number. -1; -5.");
    RedMarks x = new RedMarks();
    due.is("first", x.book(0, 1, 0, 1, 1), 0);
    due.is("wrong", x.book(9, 1, 0, 1, 1), -1);
    due.is("a wrong one takes no number", x.book(-1, -1, 0, 1, 1), 1);
    for (int n = 2; n < 40; n++) {
      due.is("book", x.book(n % 9, 100 - n, n, 1, 1), n);
    }
    due.is("full", x.book(0, 1, 0, 1, 1), -5);
    due.is("full, without a mark", x.book(-1, -1, 0, 1, 1), -5);
    due.is("full and wrong", x.book(0, 1, 0, 1, 41), -1);
    due.is("the first is as it was", x.of(0, 1), 1);
    due.is("the last is as it was", x.of(39, 1), 61);
  }

  private void factChanges() {
    due.sentence("3", "A FACT 2 .. 11 of a BOOK: what it was. -1; -2.");
    RedMarks x = new RedMarks();
    x.book(3, 4, 5, 6, 7);
    due.range("fact", 2, 11, -1, fact -> x.fact(0, fact, 1));
    due.is("letter", x.fact(0, 0, 1), -1);
    due.is("number", x.fact(0, 1, 1), -1);
    due.is("letter is as it was", x.of(0, 0), 3);
    due.is("number is as it was", x.of(0, 1), 4);
    due.is("came was", x.fact(0, 2, 199), 1);
    due.is("came was then", x.fact(0, 2, 199), 199);
    due.is("house was", x.fact(0, 11, 11), 1);
    due.is("no such book", x.fact(1, 11, 11), -2);
    due.is("no such book, no such fact", x.fact(1, 12, 0), -1);
    due.is("no such book, no such value", x.fact(1, 11, 12), -1);
  }

  private void markChanges() {
    due.sentence("4", "The MARK of a BOOK becomes another one (both NONE: none): 0. -1; -2.");
    RedMarks x = books(2);
    due.is("another", x.mark(1, 8, 99), 0);
    due.is("letter", x.of(1, 0), 8);
    due.is("number", x.of(1, 1), 99);
    due.is("the same again", x.mark(1, 8, 99), 0);
    due.is("none", x.mark(1, -1, -1), 0);
    due.is("letter then", x.of(1, 0), -1);
    due.is("number then", x.of(1, 1), -1);
    due.is("none again", x.mark(1, -1, -1), 0);
    due.is("the other book's", x.of(0, 1), 1);
    due.is("half", x.mark(1, -1, 1), -1);
    due.is("no such book", x.mark(2, 0, 1), -2);
    due.is("no such book, none", x.mark(2, -1, -1), -2);
    due.is("no such book, half", x.mark(2, 0, -1), -1);
  }

  private void ofAnswers() {
    due.sentence("5", "A FACT 0 .. 11 of a BOOK. NOTHING (-1000) without.");
    RedMarks x = books(1);
    due.range("fact", 0, 11, Edges.NOTHING, fact -> x.of(0, fact));
    due.range("book", 0, 0, Edges.NOTHING, book -> x.of(book, 0));
    due.is("neither", x.of(1, 12), Edges.NOTHING);
  }

  private void bayAnswers() {
    due.sentence("6", "SIDE of a BAY: what it was. -1.");
    RedMarks x = new RedMarks();
    int[] sides = {1, 2, 0, 0, 2};
    int was = 0;
    for (int side : sides) {
      due.is("was", x.bay(8, side), was);
      was = side;
    }
    due.is("side 3", x.bay(8, 3), -1);
    due.is("side -1", x.bay(8, -1), -1);
    due.is("bay 9", x.bay(9, 0), -1);
    due.is("bay -1", x.bay(-1, 0), -1);
    due.is("as it was", x.bay(8, 0), 2);
  }

  private void shelfAnswers() {
    due.sentence("7", "WIDE, HIGH of a SHELF: 0. -1.");
    RedMarks x = new RedMarks();
    due.range("bay", 0, 8, -1, bay -> x.shelf(bay, 3, 5, 5));
    due.range("shelf", 0, 5, -1, shelf -> x.shelf(3, shelf, 5, 5));
    due.range("wide", 1, 400, -1, wide -> x.shelf(3, 3, wide, 5));
    due.range("high", 1, 60, -1, high -> x.shelf(3, 3, 5, high));
    due.newText(x, Edges.BY_MARK);
    x.keep(0, 0, 0);
    due.is("the last that was taken", x.free(3, 3), 5);
    due.is("wide 0 and high 61", x.shelf(3, 3, 0, 61), -1);
    due.is("as it was", x.free(3, 3), 5);
  }

  private void imageAnswers() {
    due.sentence("49", "IMAGE k is kept: 0; -1.");
    RedMarks x = books(1);
    due.range("image", 0, 1, -1, x::image);
    due.is("status", x.status(), -1);
    x.book(0, 2, 0, 1, 1);
    due.is("kept anew", x.image(0), 0);
    due.is("back to the other", x.back(1), 0);
    due.is("books then", x.count(0), 1);
    due.is("back to the new one", x.back(0), 0);
    due.is("books there", x.count(0), 2);
  }

  private void backAnswers() {
    due.sentence("50", "BACK to IMAGE k: 0. -1; -2 it was not kept.");
    RedMarks x = books(1);
    due.is("0 was not kept", x.back(0), -2);
    due.is("1 was not kept", x.back(1), -2);
    for (int k : new int[] {-1, 2, Edges.SMALL, Edges.BIG}) {
      due.is("no image " + k, x.back(k), -1);
    }
    x.image(1);
    due.is("0 was not kept still", x.back(0), -2);
    due.is("1 was", x.back(1), 0);
    due.is("refused by -1", x.count(7), 4);
    due.is("refused by -2", x.count(8), 3);
  }

  /** 3 books, 2 of them with a mark and 1 of those standing, 2 texts, 1 line, 1 in the stack, 4 bytes. */
  private static RedMarks unlikeCounts() {
    RedMarks x = new RedMarks();
    x.book(0, 1, 0, 1, 1);
    x.book(0, 1, 0, 1, 1);
    x.book(-1, -1, 0, 1, 1);
    Due.text(x, Edges.BY_MARK);
    Due.text(x, "bay 9");
    x.line(0, 0, 1, -1, -1);
    x.stack(2);
    x.keep(0, 0, 0);
    Due.tape(x, "four");
    return x;
  }

  private void counts() {
    due.sentence("51", "0 BOOKS, 1 those with a MARK, 2 TEXTS, 3 LINES, 4 in the STACK, "
        + "5 that STAND in the KEPT HISTORY (0 without), 6 bytes of the TAPE, ");
    RedMarks x = unlikeCounts();
    int[] want = {3, 2, 2, 1, 1, 1, 4};
    for (int what = 0; what < want.length; what++) {
      due.is("count(" + what + ")", x.count(what), want[what]);
    }
    x.mark(1, 0, 2);
    due.is("two stand", x.count(5), 2);
    x.keep(1, 1, 0);
    due.is("none has a seat", x.count(5), 0);
    RedMarks unkept = books(3);
    due.newText(unkept, Edges.BY_MARK);
    due.is("none kept", unkept.count(5), 0);
    due.sentence("51", "NONE for others.");
    due.range("count", 0, 11, -1, x::count);
  }

  private void countsOfRefusals() {
    due.sentence("51", "7 .. 11 how many calls were REFUSED by -1, -2, -3, -5, -6 (IMAGES do not keep that).");
    RedMarks x = unlikeCounts();
    x.image(0);
    x.end(0);
    for (int n = 0; n < 5; n++) {
      x.bay(9, 0);
    }
    for (int n = 0; n < 4; n++) {
      x.list(1, 0);
    }
    for (int n = 0; n < 3; n++) {
      x.stack(2);
    }
    for (int n = 0; n < 11; n++) {
      x.line(0, 0, 1, -1, -1);
    }
    x.line(0, 0, 1, -1, -1);
    x.line(0, 0, 1, -1, -1);
    x.row();
    int[] want = {5, 4, 3, 2, 1};
    for (int n = 0; n < 5; n++) {
      due.is("count(" + (7 + n) + ")", x.count(7 + n), want[n]);
    }
    x.back(0);
    for (int n = 0; n < 5; n++) {
      due.is("count(" + (7 + n) + ") behind a back", x.count(7 + n), want[n]);
    }
    x.feed(0, 0, 0, 0, 0);
    due.is("end that answers NONE", x.end(21), -1);
    due.is("a question that answers NONE", x.count(99), -1);
    due.is("is not refused", x.count(7), 5);
  }

  private void statuses() {
    due.sentence("52", "What the latest call of book, fact, mark, bay, shelf, row, text, keep, line, list, binder, "
        + "stack, house, scatter, image, back was REFUSED by; 0 if it was not, or ahead of any.");
    RedMarks x = new RedMarks();
    due.is("ahead of any", x.status(), 0);
    IntUnaryOperator[] refused = {n -> x.book(9, 1, 0, 1, 1), n -> x.fact(39, 2, 0), n -> x.mark(39, 0, 1),
        n -> x.bay(9, 0), n -> x.shelf(9, 0, 1, 1), n -> x.row(), n -> x.text(), n -> x.keep(0, 0, 0),
        n -> x.line(1000, 0, 1, 0, 1), n -> x.list(0, 0), n -> x.binder(10, 0, 0), n -> x.stack(39),
        n -> x.house(12, 0, 0, 1), n -> x.scatter(-1, 0), n -> x.image(2), n -> x.back(1)};
    int[] want = {-1, -2, -2, -1, -1, -6, -6, -2, -1, -2, -1, -2, -1, -1, -1, -2};
    for (int n = 0; n < refused.length; n++) {
      due.is("answer of call " + n, refused[n].applyAsInt(n), want[n]);
      due.is("status of call " + n, x.status(), want[n]);
      due.is("asked again", x.status(), want[n]);
      x.image(0);
      due.is("an image is fine", x.status(), 0);
    }
    due.is("16 calls", refused.length, 16);
    x.stack(39);
    x.feed(0, 0, 0, 0, 0);
    x.end(99);
    x.clear();
    x.count(99);
    x.of(99, 99);
    due.is("calls that are not among them", x.status(), -2);
    Due.tape(x, "\u0009\u0001\u0000\u0001\u0001");
    due.is("a row of which all are rebound", x.row(), 0);
    due.is("is not refused", x.status(), 0);
  }

  private void lastCall() {
    due.sentence("50", "-2 it was not kept.");
    RedMarks x = new RedMarks();
    for (int n = 0; n < 511; n++) {
      due.is("refused call " + n, x.back(n % 2), -2);
    }
    due.is("the 512th call", x.count(8), 511);
  }
}
