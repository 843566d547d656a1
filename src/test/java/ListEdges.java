/** Term IV and promises 23 to 29, 32 to 34 and 37 to 40: lines, matches, letters, binders, the stack. */
final class ListEdges {
  private final Edges due;

  ListEdges(Edges due) {
    this.due = due;
  }

  void all() {
    twelveLines();
    lineNumbers();
    lineAnswers();
    agreements();
    agreeAnswers();
    matchesOfBooksAndLines();
    bestMatches();
    firstMatch();
    matchAnswers();
    milliard();
    matchedAnswers();
    missing();
    emptySet();
    listsOfLines();
    listAnswers();
    fighting();
    fightsAnswers();
    rest();
  }

  private void rest() {
    wantingNumbers();
    wantingAnswers();
    runningUp();
    runsAnswers();
    bindersAtFirst();
    binderAnswers();
    boundAnswers();
    twiceOnes();
    twiceAnswers();
    nineOnTheStack();
    stackAnswers();
    clearAnswers();
    rowsOfTheStack();
    besideAnswers();
  }

  private static RedMarks unmarked(int... thicks) {
    RedMarks x = new RedMarks();
    for (int thick : thicks) {
      x.book(-1, -1, 0, thick, 1);
    }
    return x;
  }

  private void twelveLines() {
    due.sentence("IV", "LINES of a list, 12 at most: ");
    RedMarks x = new RedMarks();
    for (int n = 0; n < 12; n++) {
      due.is("no such line yet", x.list(n, 0), -2);
      due.is("line", x.line(n, 0, 1, 0, 1), n);
      due.is("its list", x.list(n, 0), 0);
    }
    due.is("thirteenth", x.line(12, 0, 1, 0, 1), -5);
    due.is("lines", x.count(3), 12);
    due.is("no thirteenth", x.list(12, 0), -2);
    x.book(-1, -1, 0, 30, 1);
    x.fact(0, 10, 1);
    for (int n = 0; n < 12; n++) {
      x.fact(0, 9, n);
      due.is("the line with the word", x.agree(n, 0), 8);
      due.is("another line", x.agree((n + 1) % 12, 0), 0);
    }
  }

  private void lineNumbers() {
    due.sentence("IV", "a WORD 0 .. 999, a SUBJECT 0 .. 7, THICK 1 .. 30, and a MARK or none.");
    RedMarks x = new RedMarks();
    due.range("word", 0, 999, -1, word -> x.line(word, 0, 1, 0, 1));
    due.range("subject", 0, 7, -1, subject -> x.line(0, subject, 1, 0, 1));
    due.range("thick", 1, 30, -1, thick -> x.line(0, 0, thick, 0, 1));
    due.range("letter", 0, 8, -1, letter -> x.line(0, 0, 1, letter, 1));
    due.range("number", 1, 99, -1, number -> x.line(0, 0, 1, 0, number));
    due.is("ten were taken", x.count(3), 10);
    due.is("none", x.line(0, 0, 1, -1, -1), 10);
    due.is("letter NONE alone", x.line(0, 0, 1, -1, 1), -1);
    due.is("number NONE alone", x.line(0, 0, 1, 0, -1), -1);
    due.is("both -2", x.line(0, 0, 1, -2, -2), -1);
    x.book(8, 99, 0, 30, 1);
    x.fact(0, 9, 999);
    x.fact(0, 10, 7);
    int[] want = {-6, 2, -6, -3, -6, -4, -6, -6, -6, -6, 0};
    due.row("agree", line -> x.agree(line, 0), Edges.NOTHING, want);
  }

  private void lineAnswers() {
    due.sentence("23", "A LINE (MARK or LETTER, NUMBER both NONE): its number. -1; -5.");
    RedMarks x = new RedMarks();
    due.is("first", x.line(0, 0, 1, -1, -1), 0);
    due.is("wrong", x.line(0, 0, 31, -1, -1), -1);
    due.is("a wrong one takes no number", x.line(0, 0, 1, 8, 99), 1);
    for (int n = 2; n < 12; n++) {
      due.is("line", x.line(0, 0, 1, -1, -1), n);
    }
    due.is("full", x.line(0, 0, 1, -1, -1), -5);
    due.is("full and wrong", x.line(0, 0, 1, 9, 1), -1);
    due.is("status", x.status(), -1);
  }

  private void agreements() {
    due.sentence("IV", "A LINE and a BOOK AGREE by 8 for the same WORD, 3 for the same SUBJECT, 2 for THICK at most 2 apart, "
        + "and, if both have MARKS, 4 for the same one, -6 for another.");
    RedMarks x = new RedMarks();
    x.book(3, 7, 0, 10, 1);
    x.book(-1, -1, 0, 10, 1);
    for (int book = 0; book < 2; book++) {
      x.fact(book, 9, 5);
      x.fact(book, 10, 5);
    }
    int[][] lines = {{4, 4, 30, -1, -1}, {5, 4, 30, -1, -1}, {4, 5, 30, -1, -1}, {4, 4, 10, -1, -1}, {4, 4, 12, -1, -1},
        {4, 4, 13, -1, -1}, {4, 4, 8, -1, -1}, {4, 4, 7, -1, -1}, {4, 4, 30, 3, 7}, {4, 4, 30, 3, 8}, {4, 4, 30, 4, 7},
        {5, 5, 10, 3, 7}};
    int[] marked = {0, 8, 3, 2, 2, 0, 2, 0, 4, -6, -6, 17};
    int[] unmarked = {0, 8, 3, 2, 2, 0, 2, 0, 0, 0, 0, 13};
    for (int[] line : lines) {
      x.line(line[0], line[1], line[2], line[3], line[4]);
    }
    due.row("agree", line -> x.agree(line, 0), Edges.NOTHING, marked);
    due.row("agree without a mark", line -> x.agree(line, 1), Edges.NOTHING, unmarked);
    RedMarks y = unmarked(30);
    y.line(5, 5, 10, 3, 7);
    int[][] facts = {{9, 5, 8}, {10, 5, 11}, {3, 13, 11}, {3, 12, 13}, {3, 8, 13}, {3, 7, 11}, {10, 4, 8}, {9, 6, 0}};
    for (int[] fact : facts) {
      y.fact(0, fact[0], fact[1]);
      due.is("fact " + fact[0] + " is " + fact[1], y.agree(0, 0), fact[2]);
      due.is("sum", y.match(0), fact[2]);
    }
    y.fact(0, 9, 5);
    y.mark(0, 3, 7);
    due.is("sum with the mark", y.match(0), 12);
    y.mark(0, 3, 8);
    due.is("sum with another mark", y.match(0), 2);
  }

  private void agreeAnswers() {
    due.sentence("32", "By how much a LINE and a BOOK AGREE. NOTHING without.");
    RedMarks x = new RedMarks();
    due.is("neither", x.agree(0, 0), Edges.NOTHING);
    x.book(0, 1, 0, 1, 1);
    due.is("no line", x.agree(0, 0), Edges.NOTHING);
    x.line(0, 0, 1, 0, 1);
    due.is("all", x.agree(0, 0), 17);
    due.range("line", 0, 0, Edges.NOTHING, line -> x.agree(line, 0));
    due.range("book", 0, 0, Edges.NOTHING, book -> x.agree(0, book));
  }

  private void matchesOfBooksAndLines() {
    due.sentence("IV", "A MATCH gives each BOOK at most one LINE, each LINE to at most one BOOK; "
        + "it has the sum by which those AGREE.");
    RedMarks x = unmarked(1);
    x.line(0, 7, 30, -1, -1);
    x.line(0, 7, 30, -1, -1);
    due.is("one book, two lines", x.match(0), 8);
    due.is("lines with a book", x.match(2), 1);
    RedMarks y = unmarked(1, 1);
    y.line(0, 7, 30, -1, -1);
    due.is("two books, one line", y.match(0), 8);
    due.is("lines with a book", y.match(2), 1);
    y.line(0, 0, 30, -1, -1);
    due.is("two books, two lines", y.match(0), 19);
    RedMarks z = new RedMarks();
    z.book(0, 1, 0, 30, 1);
    z.line(900, 7, 1, 0, 2);
    due.is("less than none: no line", z.match(0), 0);
    due.is("lines with a book", z.match(2), 0);
    due.is("one match", z.match(1), 1);
  }

  private void bestMatches() {
    due.sentence("IV", "BEST MATCHES are those with the greatest sum; ");
    RedMarks x = unmarked(1, 1);
    x.fact(1, 10, 1);
    x.fact(1, 9, 0);
    x.line(0, 0, 1, -1, -1);
    due.is("agree 0", x.agree(0, 0), 13);
    due.is("agree 1", x.agree(0, 1), 10);
    x.line(0, 0, 30, -1, -1);
    due.is("agree 0", x.agree(1, 0), 11);
    due.is("agree 1", x.agree(1, 1), 8);
    due.is("13 and 8, or 11 and 10", x.match(0), 21);
    due.is("both are", x.match(1), 2);
    due.is("the first", x.matched(0, 0), 0);
    x.fact(1, 9, 1);
    due.is("13 and 0", x.match(0), 13);
    due.is("11 and 2 are as good", x.match(1), 3);
  }

  private void firstMatch() {
    due.sentence("IV", "the FIRST of them: by BOOKS in order, a lower LINE ahead of a higher one, none behind all.");
    RedMarks x = unmarked(1, 1, 1);
    x.line(0, 7, 30, -1, -1);
    due.row("one line: the first book", book -> x.matched(book, 0), -1, 0, -1, -1);
    x.line(0, 7, 30, -1, -1);
    due.row("two lines", book -> x.matched(book, 0), -1, 0, 1, -1);
    for (int n = 2; n < 12; n++) {
      x.line(0, 7, 30, -1, -1);
    }
    due.row("twelve lines", book -> x.matched(book, 0), -1, 0, 1, 2);
    // pairs that agree by 0 are as good as none, and a line comes ahead of none
    RedMarks y = unmarked(1, 1);
    y.line(900, 7, 30, -1, -1);
    due.is("sum", y.match(0), 0);
    due.is("either book or none", y.match(1), 3);
    due.row("the first book has it", book -> y.matched(book, 0), -1, 0, -1);
    due.is("so it is not missing", y.match(2), 1);
    // a book behind may make the first take a higher line
    RedMarks z = unmarked(1, 1);
    z.fact(0, 10, 3);
    z.fact(1, 9, 5);
    z.line(5, 3, 30, -1, -1);
    z.line(7, 3, 30, -1, -1);
    due.row("the word to the second", book -> z.matched(book, 0), -1, 1, 0);
  }

  private void matchAnswers() {
    due.sentence("33", "BEST MATCHES: the sum (what 0), how many there are (1; 1,000,000,000 at most), "
        + "LINES with a BOOK in the FIRST (2). NONE.");
    RedMarks x = new RedMarks();
    due.row("without books and lines", x::match, -1, 0, 1, 0);
    due.is("what -1", x.match(-1), -1);
    x.line(0, 0, 1, -1, -1);
    due.row("without books", x::match, -1, 0, 1, 0);
    x.book(-1, -1, 0, 1, 1);
    due.row("one each", x::match, -1, 13, 1, 1);
    RedMarks y = unmarked(1);
    due.row("without lines", y::match, -1, 0, 1, 0);
    RedMarks full = new RedMarks();
    for (int n = 0; n < 40; n++) {
      full.book(n % 9, n + 1, 0, 1, 1);
    }
    for (int n = 0; n < 12; n++) {
      full.line(900, 7, 30, (39 - n) % 9, 40 - n);
    }
    due.row("forty and twelve, each its own", full::match, -1, 48, 1, 12);
    due.is("the last book", full.matched(39, 0), 0);
    due.is("the first of the twelve", full.matched(28, 0), 11);
    due.is("the one ahead", full.matched(27, 0), -1);
  }

  private static RedMarks alike(int books, int lines) {
    RedMarks x = new RedMarks();
    for (int n = 0; n < books; n++) {
      x.book(-1, -1, 0, 1, 1);
    }
    for (int n = 0; n < lines; n++) {
      x.line(0, 0, 1, -1, -1);
    }
    return x;
  }

  private void milliard() {
    due.sentence("33", "1,000,000,000 at most");
    due.is("34 books, 6 lines: 34 * 33 * 32 * 31 * 30 * 29", alike(34, 6).match(1), 968330880);
    due.is("35 books, 6 lines: more", alike(35, 6).match(1), 1000000000);
    due.is("12 and 12: 12!", alike(12, 12).match(1), 479001600);
    due.is("14 books, 12 lines: more", alike(14, 12).match(1), 1000000000);
    due.is("40 and 12: far more", alike(40, 12).match(1), 1000000000);
    RedMarks x = alike(40, 12);
    due.is("sum of far more", x.match(0), 12 * 13);
    due.is("lines of far more", x.match(2), 12);
    due.is("the last with a line", x.matched(11, 0), 11);
    due.is("the first without", x.matched(12, 0), -1);
    due.is("it is not sure", x.matched(12, 1), 1);
  }

  private void matchedAnswers() {
    due.sentence("34", "The LINE of a BOOK in the FIRST (what 0); 2 if it has that (or none) in all BEST ones, else 1 (1). NONE.");
    RedMarks x = unmarked(1, 1, 1);
    x.fact(2, 9, 5);
    due.row("no lines", book -> x.matched(book, 0), -1, -1, -1, -1);
    due.row("none is sure", book -> x.matched(book, 1), -1, 2, 2, 2);
    x.line(5, 7, 30, -1, -1);
    due.row("the third has it", book -> x.matched(book, 0), -1, -1, -1, 0);
    due.row("all are sure", book -> x.matched(book, 1), -1, 2, 2, 2);
    x.line(0, 7, 30, -1, -1);
    due.row("the first has another", book -> x.matched(book, 0), -1, 1, -1, 0);
    due.row("it or the second", book -> x.matched(book, 1), -1, 1, 1, 2);
    due.range("what", 0, 1, -1, what -> x.matched(0, what));
    due.range("book", 0, 2, -1, book -> x.matched(book, 1));
  }

  private void missing() {
    due.sentence("IV", "MISSING are LINES without a BOOK in the FIRST.");
    RedMarks x = unmarked(1, 30);
    due.newText(x, "bay 9");
    x.keep(0, 0, 0);
    x.line(0, 7, 15, -1, -1);
    due.is("the first book has it", x.could(0, 0, 400, -1), 1);
    x.line(0, 7, 30, -1, -1);
    due.is("both have one", x.could(0, 0, 400, -1), 1);
    x.line(1, 7, 15, -1, -1);
    due.is("one is missing", x.could(0, 0, 400, -1), 2);
    due.row("in how many", line -> x.could(0, 0, 400, line), -1, 0, 0, 1);
    x.fact(0, 9, 1);
    due.row("another is missing", line -> x.could(0, 0, 400, line), -1, 1, 0, 0);
  }

  private void emptySet() {
    due.sentence("IV", "Of what could be in a GAP all sets of MISSING LINES (each by its THICK) are counted, "
        + "the empty one too, if it can be.");
    RedMarks x = new RedMarks();
    due.newText(x, "bay 0;place 1");
    x.keep(0, 0, 0);
    x.shelf(0, 0, 1, 40);
    due.is("none missing, free 1, slack 1", x.could(0, 0, 1, -1), 1);
    due.is("none missing, free 1, slack 0", x.could(0, 0, 0, -1), 0);
    x.line(0, 0, 1, -1, -1);
    x.line(0, 0, 1, -1, -1);
    due.is("two of 1, free 1, slack 1: none, either", x.could(0, 0, 1, -1), 3);
    due.is("slack 0: either", x.could(0, 0, 0, -1), 2);
    x.book(0, 1, 0, 1, 1);
    due.is("one missing, free 0: none", x.could(0, 0, 0, -1), 1);
    x.fact(0, 3, 2);
    due.is("free -1: not even the empty one", x.could(0, 0, 400, -1), 0);
    due.is("free -1, slack 0", x.could(0, 0, 0, -1), 0);
  }

  private void listsOfLines() {
    due.sentence("IV", "A LINE is of a LIST 0 .. 3 (0 at first).");
    RedMarks x = new RedMarks();
    for (int n = 0; n < 12; n++) {
      x.line(0, 0, 1, -1, -1);
      due.is("at first", x.list(n, 3), 0);
    }
    due.range("list", 0, 3, -1, list -> x.list(11, list));
    due.is("the last that was taken", x.list(11, 0), 3);
    due.is("another line's", x.list(10, 0), 3);
  }

  private void listAnswers() {
    due.sentence("24", "LIST of a LINE: what it was. -1; -2 (no such LINE).");
    RedMarks x = new RedMarks();
    x.line(0, 0, 1, -1, -1);
    x.line(0, 0, 1, -1, -1);
    int[] lists = {3, 1, 2, 2, 0};
    int was = 0;
    for (int list : lists) {
      due.is("was", x.list(1, list), was);
      was = list;
    }
    due.range("line", 0, 1, -2, line -> x.list(line, 1));
    due.is("no such list", x.list(0, 4), -1);
    due.is("no such line, no such list", x.list(2, 4), -1);
    due.is("no such line, no such list below", x.list(-1, -1), -1);
    due.is("as it was", x.list(0, 0), 1);
  }

  private static RedMarks twoLines(int[] one, int[] other, int list) {
    RedMarks x = new RedMarks();
    x.line(one[0], 0, 1, one[1], one[2]);
    x.line(other[0], 0, 1, other[1], other[2]);
    x.list(1, list);
    return x;
  }

  private void fighting() {
    due.sentence("IV", "Two LINES of unlike LISTS FIGHT, if they have the same MARK and unlike WORDS, "
        + "or the same WORD and unlike MARKS (both have one).");
    int[][][] pairs = {{{5, 1, 1}, {6, 1, 1}}, {{5, 1, 1}, {5, 1, 2}}, {{5, 1, 1}, {5, 2, 1}}, {{5, 1, 1}, {5, 1, 1}},
        {{5, 1, 1}, {6, 1, 2}}, {{5, 1, 1}, {5, -1, -1}}, {{5, -1, -1}, {5, 1, 1}}, {{5, -1, -1}, {6, -1, -1}},
        {{5, -1, -1}, {5, -1, -1}}, {{0, 8, 99}, {999, 8, 99}}};
    int[] fight = {1, 1, 1, 0, 0, 0, 0, 0, 0, 1};
    for (int n = 0; n < pairs.length; n++) {
      due.is("unlike lists, pair " + n, twoLines(pairs[n][0], pairs[n][1], 3).fights(0, 0), fight[n]);
      due.is("one list, pair " + n, twoLines(pairs[n][0], pairs[n][1], 0).fights(0, 0), 0);
    }
  }

  private void fightsAnswers() {
    due.sentence("25", "How many pairs of LINES FIGHT (what 0); the lower (1), the higher (2) one of the i-th "
        + "(by both in order). NONE.");
    RedMarks x = new RedMarks();
    due.is("without lines", x.fights(0, 0), 0);
    due.is("the first without lines", x.fights(1, 0), -1);
    for (int n = 0; n < 4; n++) {
      x.line(n, 0, 1, 0, 1);
      x.list(n, n);
    }
    due.is("all six", x.fights(0, 0), 6);
    due.row("lower", i -> x.fights(1, i), -1, 0, 0, 0, 1, 1, 2);
    due.row("higher", i -> x.fights(2, i), -1, 1, 2, 3, 2, 3, 3);
    due.is("i NONE", x.fights(1, -1), -1);
    due.range("what", 0, 2, -1, what -> x.fights(what, 5));
    RedMarks full = new RedMarks();
    for (int n = 0; n < 12; n++) {
      full.line(n, 0, 1, 0, 1);
      full.list(n, n % 4);
    }
    due.is("twelve of four lists", full.fights(0, 0), 54);
    due.is("lower of the last", full.fights(1, 53), 10);
    due.is("higher of the last", full.fights(2, 53), 11);
    due.is("behind the last", full.fights(2, 54), -1);
  }

  private void wantingNumbers() {
    due.sentence("IV", "WANTING are NUMBERS of a LETTER from 1 up to its greatest that no BOOK has.");
    RedMarks x = new RedMarks();
    due.is("no books", x.wanting(0, 0, 0), 0);
    x.book(0, 1, 0, 1, 1);
    due.is("1 alone", x.wanting(0, 0, 0), 0);
    x.mark(0, 0, 2);
    due.row("2 alone", i -> x.wanting(0, 1, i), -1, 1);
    x.mark(0, 0, 99);
    due.is("99 alone", x.wanting(0, 0, 0), 98);
    due.is("the first", x.wanting(0, 1, 0), 1);
    due.is("the last", x.wanting(0, 1, 97), 98);
    due.is("behind the last", x.wanting(0, 1, 98), -1);
    x.book(0, 98, 0, 1, 1);
    due.is("the last then", x.wanting(0, 1, 96), 97);
    due.is("behind it", x.wanting(0, 1, 97), -1);
    x.book(1, 1, 0, 1, 1);
    due.is("another letter's has nothing to do with it", x.wanting(0, 1, 0), 1);
    x.book(0, 99, 0, 1, 1);
    due.is("one of two with the greatest", x.wanting(0, 0, 0), 97);
    x.mark(0, -1, -1);
    due.is("the other has it still", x.wanting(0, 0, 0), 97);
    x.mark(3, -1, -1);
    due.is("98 is the greatest then", x.wanting(0, 0, 0), 97);
    for (int first = 1; first <= 3; first++) {
      RedMarks y = new RedMarks();
      y.book(0, first, 0, 1, 1);
      y.book(0, 4, 0, 1, 1);
      due.is("two, the first has " + first, y.wanting(0, 0, 0), 2);
      due.is("the least", y.wanting(0, 1, 0), first == 1 ? 2 : 1);
      due.is("the next", y.wanting(0, 1, 1), first == 3 ? 2 : 3);
      due.is("books with the letter", y.wanting(0, 2, 0), 2);
    }
  }

  private void wantingAnswers() {
    due.sentence("26", "How many NUMBERS of a LETTER are WANTING (what 0), the i-th (1), how many BOOKS have the LETTER (2). NONE.");
    RedMarks x = new RedMarks();
    x.book(8, 4, 0, 1, 1);
    x.book(8, 2, 0, 1, 1);
    x.book(8, 4, 0, 1, 1);
    x.book(-1, -1, 0, 1, 1);
    due.is("how many", x.wanting(8, 0, 0), 2);
    due.row("the i-th", i -> x.wanting(8, 1, i), -1, 1, 3);
    due.is("i NONE", x.wanting(8, 1, -1), -1);
    due.is("books", x.wanting(8, 2, 0), 3);
    due.is("books of another", x.wanting(7, 2, 0), 0);
    due.range("letter", 0, 8, -1, letter -> x.wanting(letter, 0, 0));
    due.range("letter, what 2", 0, 8, -1, letter -> x.wanting(letter, 2, 0));
    due.range("what", 0, 2, -1, what -> x.wanting(8, what, 0));
  }

  private static RedMarks holed(int[]... books) {
    RedMarks x = new RedMarks();
    for (int[] each : books) {
      int book = x.book(0, each[0], 0, 1, 1);
      x.fact(book, 5, each[1]);
      x.fact(book, 6, each[2]);
    }
    return x;
  }

  private void runningUp() {
    due.sentence("IV", "A LETTER RUNS UP by so many pairs of BOOKS with it, both with a HOLE, of which the one with the greater "
        + "NUMBER has the hole higher, less those of which it has it lower.");
    due.is("higher", holed(new int[] {1, 1, 0}, new int[] {2, 2, 40}).runs(0), 1);
    due.is("higher, the other way round", holed(new int[] {2, 2, 40}, new int[] {1, 1, 0}).runs(0), 1);
    due.is("lower", holed(new int[] {1, 1, 1}, new int[] {2, 1, 0}).runs(0), -1);
    due.is("as high", holed(new int[] {1, 1, 5}, new int[] {2, 1, 5}).runs(0), 0);
    due.is("the same number", holed(new int[] {2, 1, 5}, new int[] {2, 1, 9}).runs(0), 0);
    due.is("one without a hole", holed(new int[] {1, 0, 5}, new int[] {2, 1, 9}).runs(0), 0);
    due.is("the other without", holed(new int[] {1, 1, 5}, new int[] {2, 0, 9}).runs(0), 0);
    due.is("one book", holed(new int[] {1, 1, 5}).runs(0), 0);
    RedMarks x = holed(new int[] {1, 1, 5}, new int[] {2, 1, 9});
    x.mark(0, 1, 1);
    due.is("unlike letters", x.runs(0), 0);
    RedMarks full = new RedMarks();
    for (int n = 0; n < 40; n++) {
      full.book(8, n + 1, 0, 1, 1);
      full.fact(n, 5, 2);
      full.fact(n, 6, n);
    }
    due.is("forty up", full.runs(8), 780);
    for (int n = 0; n < 40; n++) {
      full.fact(n, 6, 39 - n);
    }
    due.is("forty down", full.runs(8), -780);
  }

  private void runsAnswers() {
    due.sentence("27", "By how many a LETTER RUNS UP. NOTHING without.");
    RedMarks x = new RedMarks();
    due.range("letter", 0, 8, Edges.NOTHING, x::runs);
    due.is("without books", x.runs(8), 0);
    due.is("no letter is none", x.runs(-1), Edges.NOTHING);
  }

  private void bindersAtFirst() {
    due.sentence("IV", "BINDERS by STARS 0 .. 9: YEARS from 0 .. 199 to another one (0, 199 at first): "
        + "a BOOK is LATE, if it CAME behind them, EARLY, if ahead.");
    RedMarks x = new RedMarks();
    x.book(-1, -1, 0, 1, 1);
    x.book(-1, -1, 199, 1, 1);
    for (int star = 0; star <= 9; star++) {
      x.fact(0, 7, star);
      x.fact(1, 7, star);
      due.is("0 at first", x.bound(0), 0);
      due.is("199 at first", x.bound(1), 0);
    }
    x.fact(0, 2, 50);
    x.fact(1, 2, 60);
    int[][] years = {{50, 60, 0, 0}, {51, 60, -1, 0}, {50, 59, 0, 1}, {51, 59, -1, 1}, {50, 50, 0, 1}, {60, 60, -1, 0},
        {0, 0, 1, 1}, {199, 199, -1, -1}, {0, 199, 0, 0}};
    for (int[] each : years) {
      x.binder(9, each[0], each[1]);
      due.is("came 50 by " + each[0] + " .. " + each[1], x.bound(0), each[2]);
      due.is("came 60 by " + each[0] + " .. " + each[1], x.bound(1), each[3]);
    }
  }

  private void binderAnswers() {
    due.sentence("28", "YEARS of a BINDER: how many BOOKS with the STAR are EARLY or LATE then. -1 (to ahead of from, too).");
    RedMarks x = new RedMarks();
    int[] came = {0, 9, 10, 20, 21, 199};
    for (int year : came) {
      int book = x.book(-1, -1, year, 1, 1);
      x.fact(book, 7, 9);
    }
    x.book(-1, -1, 199, 1, 1);
    due.is("two and two", x.binder(9, 10, 20), 4);
    due.is("all", x.binder(9, 0, 199), 0);
    due.is("another star", x.binder(0, 0, 198), 1);
    due.is("a star without books", x.binder(5, 50, 60), 0);
    due.range("star", 0, 9, -1, star -> x.binder(star, 0, 199));
    due.range("from", 0, 150, -1, from -> x.binder(8, from, 150));
    due.range("to", 150, 199, -1, to -> x.binder(8, 150, to));
    due.is("from 200, to 200", x.binder(8, 200, 200), -1);
    due.is("from -1, to 0", x.binder(8, -1, 0), -1);
    due.is("one year", x.binder(9, 199, 199), 5);
    due.is("to ahead of from", x.binder(9, 199, 198), -1);
    due.is("as it was", x.bound(5), 0);
  }

  private void boundAnswers() {
    due.sentence("29", "By its STAR a BOOK is EARLY (-1), LATE (1), neither (0). NOTHING without.");
    RedMarks x = new RedMarks();
    int[] came = {9, 10, 11};
    for (int year : came) {
      x.book(-1, -1, year, 1, 1);
    }
    x.binder(0, 10, 10);
    x.binder(1, 0, 8);
    due.row("bound", x::bound, Edges.NOTHING, -1, 0, 1);
    due.is("book -1", x.bound(-1), Edges.NOTHING);
    x.fact(0, 7, 1);
    due.is("by another star", x.bound(0), 1);
    x.fact(0, 2, 8);
    due.is("in another year", x.bound(0), 0);
  }

  private void twiceOnes() {
    due.sentence("IV", "TWICE are two BOOKS with the same MARK.");
    int[][] pairs = {{0, 1, 0, 1, 1}, {8, 99, 8, 99, 1}, {0, 1, 0, 2, 0}, {0, 1, 1, 1, 0}, {-1, -1, -1, -1, 0},
        {0, 1, -1, -1, 0}, {-1, -1, 0, 1, 0}};
    for (int[] each : pairs) {
      RedMarks x = new RedMarks();
      x.book(each[0], each[1], 0, 1, 1);
      due.is("one alone", x.twice(0, 0), 0);
      x.book(each[2], each[3], 5, 9, 9);
      due.is("pair", x.twice(0, 0), each[4]);
    }
  }

  private void twiceAnswers() {
    due.sentence("37", "How many pairs are TWICE (what 0); the lower (1), the higher (2) BOOK of the i-th (by both in order). NONE.");
    RedMarks x = new RedMarks();
    due.is("without books", x.twice(0, 0), 0);
    due.is("the first without books", x.twice(1, 0), -1);
    int[] numbers = {1, 2, 1, 2, 1};
    for (int number : numbers) {
      x.book(0, number, 0, 1, 1);
    }
    due.is("how many", x.twice(0, 0), 4);
    due.row("lower", i -> x.twice(1, i), -1, 0, 0, 1, 2);
    due.row("higher", i -> x.twice(2, i), -1, 2, 4, 3, 4);
    due.is("i NONE", x.twice(1, -1), -1);
    due.range("what", 0, 2, -1, what -> x.twice(what, 3));
    RedMarks full = NumberEdges.books(40);
    due.is("forty alike", full.twice(0, 0), 780);
    due.is("lower of the last", full.twice(1, 779), 38);
    due.is("higher of the last", full.twice(2, 779), 39);
    due.is("behind the last", full.twice(1, 780), -1);
  }

  private void nineOnTheStack() {
    due.sentence("IV", "A STACK, 9 at most, of BOOKS (each once): ");
    RedMarks x = NumberEdges.books(11);
    for (int n = 1; n <= 9; n++) {
      due.is("book " + n, x.stack(11 - n), n);
      due.is("once more", x.stack(11 - n), -3);
      due.is("in the stack", x.count(4), n);
    }
    due.is("a tenth", x.stack(0), -5);
    due.is("one of the nine", x.stack(5), -3);
    due.is("in the stack", x.count(4), 9);
    int[] want = {2, 3, 4, 5, 6, 7, 8, 9, 10};
    due.row("beside", x::beside, -1, want);
  }

  private void stackAnswers() {
    due.sentence("38", "A BOOK comes to the STACK: how many it has. -2; -3 it is in it; -5.");
    RedMarks x = NumberEdges.books(40);
    due.is("the last", x.stack(39), 1);
    due.is("the first", x.stack(0), 2);
    due.is("again", x.stack(39), -3);
    due.is("no such", x.stack(40), -2);
    due.is("no such below", x.stack(-1), -2);
    for (int n = 1; n <= 7; n++) {
      due.is("another", x.stack(n), n + 2);
    }
    due.is("full", x.stack(8), -5);
    due.is("full: again", x.stack(7), -3);
    due.is("full: no such", x.stack(40), -2);
    due.is("refused by -2", x.count(8), 3);
    due.is("refused by -3", x.count(9), 2);
    due.is("refused by -5", x.count(10), 1);
  }

  private void clearAnswers() {
    due.sentence("39", "The STACK is empty then: how many it had.");
    RedMarks x = NumberEdges.books(9);
    due.is("empty", x.clear(), 0);
    for (int n = 0; n < 9; n++) {
      x.stack(n);
    }
    due.is("full", x.clear(), 9);
    due.is("empty then", x.count(4), 0);
    due.is("no row", x.beside(-1), -1);
    due.is("empty again", x.clear(), 0);
    due.is("one that was in it", x.stack(8), 1);
    due.is("its row", x.beside(0), 8);
    due.is("one", x.clear(), 1);
  }

  private static RedMarks stacked(int[] damps, int[] stars) {
    RedMarks x = new RedMarks();
    for (int n = 0; n < damps.length; n++) {
      x.book(-1, -1, 0, 1, 1);
      x.fact(n, 8, damps[n]);
      x.fact(n, 7, stars[n]);
    }
    for (int n = damps.length - 1; n >= 0; n--) {
      x.stack(n);
    }
    return x;
  }

  private void rowsOfTheStack() {
    due.sentence("IV", "its ROW has the least sum of differences of DAMP of neighbours, and 2 for each two neighbours "
        + "with unlike STARS; of alike ones the first as rows of numbers.");
    int[][][] cases = {
        {{5}, {0}, {0}, {0}}, {{9, 0}, {0, 0}, {0, 1}, {9}}, {{9, 0}, {0, 1}, {0, 1}, {11}},
        {{5, 9, 0}, {0, 0, 0}, {1, 0, 2}, {9}}, {{0, 9, 5}, {0, 0, 0}, {0, 2, 1}, {9}},
        {{5, 5, 5}, {0, 0, 0}, {0, 1, 2}, {0}}, {{5, 5, 5}, {0, 1, 0}, {0, 2, 1}, {2}},
        {{5, 5, 5}, {0, 1, 2}, {0, 1, 2}, {4}}, {{0, 1, 3, 4}, {0, 1, 0, 1}, {0, 1, 3, 2}, {9}},
        {{0, 3, 1}, {0, 0, 1}, {1, 0, 2}, {6}}, {{0, 4, 1}, {0, 0, 1}, {1, 0, 2}, {7}}};
    for (int[][] each : cases) {
      RedMarks x = stacked(each[0], each[1]);
      due.row("row", x::beside, -1, each[2]);
      due.is("sum", x.beside(-1), each[3][0]);
    }
    RedMarks nine = stacked(new int[] {0, 9, 1, 8, 2, 7, 3, 6, 4}, new int[9]);
    due.row("nine", nine::beside, -1, 0, 2, 4, 6, 8, 7, 5, 3, 1);
    due.is("sum of nine", nine.beside(-1), 9);
    RedMarks alike = stacked(new int[9], new int[9]);
    due.row("nine alike", alike::beside, -1, 0, 1, 2, 3, 4, 5, 6, 7, 8);
    due.is("sum of nine alike", alike.beside(-1), 0);
  }

  private void besideAnswers() {
    due.sentence("40", "The i-th BOOK of the ROW of the STACK; its sum (i NONE). NONE.");
    RedMarks x = NumberEdges.books(3);
    due.is("empty: sum", x.beside(-1), -1);
    due.is("empty: first", x.beside(0), -1);
    x.stack(2);
    due.row("one", x::beside, -1, 2);
    due.is("sum of one", x.beside(-1), 0);
    x.stack(0);
    x.fact(2, 8, 9);
    x.fact(0, 7, 1);
    due.row("two", x::beside, -1, 0, 2);
    due.is("sum of two", x.beside(-1), 11);
    x.stack(1);
    due.row("three: 9, 0 and 0 with another star", x::beside, -1, 0, 1, 2);
    due.is("sum of three", x.beside(-1), 11);
    x.fact(1, 8, 9);
    due.is("sum, damp 9", x.beside(-1), 11);
    x.fact(1, 8, 8);
    due.is("sum, damp 8", x.beside(-1), 11);
    x.fact(1, 7, 5);
    due.is("sum, another star", x.beside(-1), 13);
    x.fact(2, 8, 0);
    due.row("another row", x::beside, -1, 0, 2, 1);
    due.is("another sum", x.beside(-1), 12);
    x.clear();
    due.is("cleared", x.beside(-1), -1);
    x.stack(1);
    x.stack(2);
    due.row("two others", x::beside, -1, 1, 2);
    due.is("sum of two others", x.beside(-1), 10);
    x.clear();
    due.is("empty again", x.beside(-1), -1);
  }
}
