/** Term V and promises 10, 11 and 41 to 48: houses, what is left, years, worlds, rows, images. */
final class WorldEdges {
  private final Edges due;

  WorldEdges(Edges due) {
    this.due = due;
  }

  void all() {
    foundInHouses();
    toBeFound();
    nextExactly();
    leftByCounts();
    leftAtLeast();
    worldNumbers();
    draws();
    bookByBook();
    rowsByFives();
    rowsThatCannotBe();
    rowsThatEnd();
    rowsWithoutRoom();
    imagesLeave();
    imagesKeepBooks();
    imagesKeepTheRest();
    imagesKeepWhatIsSet();
    imagesStay();
    answers();
  }

  private void answers() {
    rowAnswers();
    reboundAnswers();
    houseAnswers();
    expectAnswers();
    nextAnswers();
    leftAnswers();
    grewAnswers();
    scatterAnswers();
    wentAnswers();
    togetherAnswers();
    togetherNone();
  }

  private void foundInHouses() {
    due.sentence("V", "In a HOUSE are FOUND BOOKS with that HOUSE.");
    RedMarks x = NumberEdges.books(40);
    x.house(0, 2, 1, 1);
    x.house(11, 2, 1, 1);
    due.is("all in the first", x.expect(0), 4000);
    due.is("none in the last", x.expect(11), 0);
    x.fact(39, 11, 11);
    x.mark(39, -1, -1);
    due.is("all but one", x.expect(0), 3900);
    due.is("one, without a mark", x.expect(11), 100);
  }

  private void toBeFound() {
    due.sentence("V", "To be FOUND there are as many as FOUND times (ALL less LOOKED) through LOOKED (none without LOOKED).");
    RedMarks x = NumberEdges.books(3);
    int[][] houses = {{5000, 5000, 0}, {5000, 4999, 0}, {5000, 1, 3 * 4999 * 100}, {7, 3, 400}, {8, 7, 42}, {1, 1, 0},
        {10, 3, 700}, {5, 3, 200}, {4, 3, 100}, {5000, 0, -1}, {0, 0, -1}, {1, 0, -1}};
    for (int[] house : houses) {
      x.house(0, house[0], house[1], 1);
      due.is("all " + house[0] + ", looked " + house[1], x.expect(0), house[2]);
    }
    RedMarks full = NumberEdges.books(40);
    full.house(0, 5000, 1, 1);
    due.is("the most there can be", full.expect(0), 40 * 4999 * 100);
  }

  private void nextExactly() {
    due.sentence("V", "NEXT is the HOUSE with the most of these by its COST (exactly; of alike ones the lowest).");
    RedMarks x = NumberEdges.books(2);
    x.fact(1, 11, 11);
    x.house(0, 2, 1, 2);
    x.house(11, 2, 1, 1);
    due.is("1 by 2, 1 by 1", x.next(), 11);
    x.house(0, 2, 1, 1);
    due.is("alike", x.next(), 0);
    x.house(0, 200, 199, 1);
    x.house(11, 200, 198, 2);
    due.is("1 by 199, 2 by 198 by 2", x.next(), 11);
    x.house(11, 4999, 4998, 1);
    x.house(0, 5000, 4999, 1);
    due.is("1 by 4999, 1 by 4998", x.next(), 11);
    x.house(11, 5000, 4999, 1);
    due.is("1 by 4999 both", x.next(), 0);
    x.house(0, 5000, 2500, 100);
    x.house(11, 200, 100, 100);
    due.is("alike by other numbers", x.next(), 0);
    x.house(11, 5000, 2499, 100);
    due.is("2501 by 2499", x.next(), 11);
    x.house(0, 5000, 1, 100);
    x.house(11, 4999, 1, 100);
    due.is("4999 by 100, 4998 by 100", x.next(), 0);
    x.house(11, 4951, 1, 99);
    due.is("4999 by 100, 4950 by 99", x.next(), 11);
  }

  /** So many books with marks and so many lines, of which so many have a book by their marks. */
  private static RedMarks two(int books, int lines, int both) {
    RedMarks x = new RedMarks();
    for (int n = 0; n < books; n++) {
      x.book(0, n + 1, 0, 1, 1);
    }
    for (int n = 0; n < lines; n++) {
      x.line(900, 7, 30, n < both ? 0 : 8, n < both ? n + 1 : 99);
    }
    return x;
  }

  private void leftByCounts() {
    due.sentence("V", "LEFT by two counts: BOOKS with MARKS times LINES through LINES that have a BOOK in the FIRST, cut; ");
    due.is("40 and 12, 12 both", two(40, 12, 12).left(0), 40);
    due.is("40 and 12, 1 both", two(40, 12, 1).left(0), 480);
    due.is("7 and 5, 2 both", two(7, 5, 2).left(0), 17);
    due.is("7 and 5, 4 both", two(7, 5, 4).left(0), 8);
    due.is("1 and 1, 1 both", two(1, 1, 1).left(0), 1);
    due.is("7 and 5, none", two(7, 5, 0).left(0), -1);
    due.is("7 and no lines", two(7, 0, 0).left(0), -1);
    RedMarks x = two(2, 2, 2);
    x.book(-1, -1, 0, 1, 1);
    due.is("one without a mark more", x.left(0), 2);
    x.line(0, 0, 1, 8, 99);
    due.is("a line for it", x.left(0), 2);
    x.mark(0, -1, -1);
    x.mark(1, -1, -1);
    due.is("none with a mark, but lines with books", x.left(0), 0);
  }

  private void leftAtLeast() {
    due.sentence("V", "at least: both together less these.");
    due.is("40 and 12, 12 both", two(40, 12, 12).left(1), 40);
    due.is("40 and 12, none", two(40, 12, 0).left(1), 52);
    due.is("7 and 5, 2 both", two(7, 5, 2).left(1), 10);
    due.is("nothing", two(0, 0, 0).left(1), 0);
    due.is("books alone", two(7, 0, 0).left(1), 7);
    due.is("lines alone", two(0, 5, 0).left(1), 5);
    RedMarks x = new RedMarks();
    x.book(-1, -1, 0, 1, 1);
    x.line(0, 0, 1, -1, -1);
    due.is("one without a mark, with a line", x.left(1), 0);
    due.is("by counts", x.left(0), 0);
  }

  private void worldNumbers() {
    due.sentence("V", "A WORLD with a SEED and BURN 0 .. 100: s is the SEED (0 .. 1,000,000); ");
    RedMarks x = NumberEdges.books(2);
    due.range("seed", 0, 1000000, -1, seed -> x.scatter(seed, 50));
    due.range("burn", 0, 100, -1, burn -> x.scatter(50, burn));
    due.is("burn 0: none", x.scatter(777, 0), 0);
    due.is("burn 100: all", x.scatter(777, 100), 2);
  }

  private void draws() {
    due.sentence("V", "a DRAW of n: s becomes (s times 1103 and 12345) modulo 1,000,003, it is s modulo n.");
    RedMarks x = NumberEdges.books(1);
    // 12345, then 12345 * 1103 + 12345 = 13628880, less 13 * 1000003 is 628841
    x.scatter(0, 0);
    due.is("seed 0", x.went(0), 628841 % 12);
    // 1103012345 less 1103 * 1000003 is 9036, then 9036 * 1103 + 12345 = 9979053, less 9 * 1000003 is 979026
    x.scatter(1000000, 0);
    due.is("seed 1000000", x.went(0), 979026 % 12);
    due.is("12345 is 45 modulo 100: burnt below 46", x.scatter(0, 46), 1);
    due.is("but not below 45", x.scatter(0, 45), 0);
    due.is("9036 is 36 modulo 100: burnt below 37", x.scatter(1000000, 37), 1);
    due.is("but not below 36", x.scatter(1000000, 36), 0);
  }

  private void bookByBook() {
    due.sentence("V", "BOOK by BOOK: a DRAW of 100: below BURN it is BURNT; else a DRAW of 12 is its HOUSE.");
    int[][] worlds = {{0, 0}, {0, 100}, {1000000, 1}, {1000000, 99}, {123456, 50}, {999999, 33}};
    for (int[] world : worlds) {
      RedMarks x = NumberEdges.books(40);
      int[] houses = Due.drawn(world[0], world[1], 40);
      int burnt = 0;
      for (int house : houses) {
        burnt += house == -1 ? 1 : 0;
      }
      due.is("burnt", x.scatter(world[0], world[1]), burnt);
      due.row("went", x::went, -1, houses);
    }
  }

  private static String five(int letter, int number, int came, int thick, int tall) {
    return "" + (char) letter + (char) number + (char) came + (char) thick + (char) tall;
  }

  private void rowsByFives() {
    due.sentence("V", "A ROW of BOOKS: the TAPE's bytes by fives: LETTER, NUMBER, CAME, THICK, TALL each; ");
    RedMarks x = new RedMarks();
    Due.tape(x, five(8, 99, 199, 30, 40) + five(0, 1, 0, 1, 1) + five(3, 7, 100, 15, 20));
    due.is("three", x.row(), 3);
    int[][] want = {{8, 99, 199, 30, 40, 0}, {0, 1, 0, 1, 1, 0}, {3, 7, 100, 15, 20, 0}};
    for (int book = 0; book < 3; book++) {
      for (int f = 0; f < 6; f++) {
        due.is("fact " + f + " of " + book, x.of(book, f), want[book][f]);
      }
    }
    due.is("all with marks", x.count(1), 3);
    RedMarks full = new RedMarks();
    Due.tape(full, five(0, 1, 0, 1, 1).repeat(40));
    due.is("forty of 200 bytes", full.row(), 40);
    due.is("none rebound", full.rebound(), 0);
  }

  private void rowsThatCannotBe() {
    due.sentence("V", "one that can't be, ");
    String good = five(1, 2, 3, 4, 5);
    String[] wrong = {five(9, 2, 3, 4, 5), five(255, 2, 3, 4, 5), five(1, 0, 3, 4, 5), five(1, 100, 3, 4, 5),
        five(1, 255, 3, 4, 5), five(255, 255, 3, 4, 5), five(1, 2, 200, 4, 5), five(1, 2, 255, 4, 5), five(1, 2, 3, 0, 5),
        five(1, 2, 3, 31, 5), five(1, 2, 3, 4, 0), five(1, 2, 3, 4, 41), five(0, 0, 0, 0, 0)};
    for (String each : wrong) {
      RedMarks x = new RedMarks();
      Due.tape(x, good + each + good);
      due.is("the others", x.row(), 2);
      due.is("rebound", x.rebound(), 1);
      due.is("numbers without one left out", x.of(1, 0), 1);
      due.is("not refused", x.status(), 0);
      due.is("not counted", x.count(7), 0);
    }
  }

  private void rowsThatEnd() {
    due.sentence("V", "one within which the TAPE ends, ");
    String bytes = five(1, 2, 3, 4, 5) + five(1, 2, 3, 4, 5);
    int[] came = {0, 0, 0, 0, 1, 1, 1, 1, 1, 2};
    int[] rebound = {1, 1, 1, 1, 0, 1, 1, 1, 1, 0};
    for (int n = 1; n <= 10; n++) {
      RedMarks x = new RedMarks();
      Due.tape(x, bytes.substring(0, n));
      due.is("of " + n + " bytes", x.row(), came[n - 1]);
      due.is("rebound of " + n, x.rebound(), rebound[n - 1]);
      due.is("the tape", x.count(6), 0);
    }
    RedMarks whole = new RedMarks();
    Due.tape(whole, five(9, 9, 9, 9, 9).repeat(80));
    due.is("of 400", whole.row(), 0);
    due.is("rebound of 400", whole.rebound(), 80);
    Due.tape(whole, five(9, 9, 9, 9, 9).repeat(79) + "four");
    due.is("of 399", whole.row(), 0);
    due.is("rebound of 399", whole.rebound(), 80);
  }

  private void rowsWithoutRoom() {
    due.sentence("V", "one for which there is no room is REBOUND: none.");
    RedMarks x = NumberEdges.books(39);
    Due.tape(x, five(1, 2, 3, 4, 5) + five(8, 99, 3, 4, 5));
    due.is("room for one", x.row(), 1);
    due.is("rebound", x.rebound(), 1);
    due.is("the first of them", x.of(39, 0), 1);
    Due.tape(x, five(1, 2, 3, 4, 5));
    due.is("room for none", x.row(), 0);
    due.is("rebound", x.rebound(), 1);
    due.is("not refused", x.status(), 0);
    due.is("not counted", x.count(10), 0);
    due.is("books", x.count(0), 40);
  }

  private void imagesLeave() {
    due.sentence("V", "IMAGES 0, 1 keep all but the TAPE, FAULT, REBOUND, the latest WORLD; ");
    RedMarks x = NumberEdges.books(1);
    x.scatter(0, 0);
    Due.text(x, "bay");
    Due.tape(x, "five!!");
    x.row();
    Due.tape(x, "abc");
    due.is("rebound ahead", x.rebound(), 2);
    x.image(0);
    x.scatter(1000000, 0);
    x.end(0);
    Due.tape(x, "five!");
    x.row();
    Due.text(x, "bay 1 1");
    Due.tape(x, "falsely");
    x.back(0);
    due.is("tape", x.count(6), 7);
    due.is("fault", x.fault(), 6);
    due.is("rebound", x.rebound(), 1);
    due.is("world", x.went(0), 979026 % 12);
    x.end(5);
    due.is("the tape's bytes", x.text(), 0);
  }

  private void imagesKeepBooks() {
    due.sentence("V", "BACK to one all that it keeps is as it was then ");
    RedMarks x = new RedMarks();
    x.book(3, 4, 5, 6, 7);
    x.image(1);
    for (int f = 2; f < 12; f++) {
      x.fact(0, f, f == 2 || f == 3 || f == 4 ? 9 : 1);
    }
    x.mark(0, 8, 8);
    x.book(-1, -1, 9, 9, 9);
    x.back(1);
    int[] want = {3, 4, 5, 6, 7, 0, 0, 0, 0, 0, 0, 0};
    for (int f = 0; f < 12; f++) {
      due.is("fact " + f, x.of(0, f), want[f]);
    }
    due.is("the second book is gone", x.of(1, 2), Edges.NOTHING);
    due.is("another one", x.book(-1, -1, 0, 1, 1), 1);
    for (int f = 5; f < 12; f++) {
      due.is("its fact " + f, x.of(1, f), 0);
    }
  }

  private void imagesKeepTheRest() {
    due.sentence("V", "BACK to one all that it keeps is as it was then ");
    RedMarks x = NumberEdges.books(2);
    x.image(0);
    due.newText(x, Edges.BY_MARK);
    x.keep(0, 0, 0);
    x.line(0, 0, 1, 0, 1);
    x.list(0, 3);
    x.bay(0, 2);
    x.shelf(0, 0, 7, 7);
    x.binder(0, 50, 60);
    x.stack(1);
    x.house(0, 10, 5, 3);
    x.image(1);
    due.is("back to the first", x.back(0), 0);
    due.is("texts", x.count(2), 0);
    due.is("none kept", x.how(0), -1);
    due.is("lines", x.count(3), 0);
    due.is("stack", x.count(4), 0);
    due.is("bound", x.bound(0), 0);
    due.is("not looked at", x.expect(0), -1);
    due.is("side", x.bay(0, 0), 0);
    due.is("back to the second", x.back(1), 0);
    due.is("texts", x.count(2), 1);
    due.is("kept", x.how(0), 4);
    due.is("list", x.list(0, 3), 3);
    due.is("side", x.bay(0, 2), 2);
    due.is("wide", x.free(0, 0), 6);
    due.is("bound", x.bound(0), -1);
    due.is("in the stack", x.stack(1), -3);
    due.is("to be found", x.expect(0), 200);
    x.fact(0, 4, 8);
    due.is("high", x.how(0), 2);
  }

  private static int[] told(RedMarks x) {
    return new int[] {x.count(0), x.count(1), x.count(2), x.count(3), x.count(4), x.count(5), x.of(0, 0), x.of(0, 1),
        x.of(0, 2), x.of(0, 3), x.of(0, 4), x.of(0, 5), x.of(0, 11), x.how(1), x.on(0, 0, 0), x.free(0, 0), x.bound(1),
        x.fights(0, 0), x.agree(0, 1), x.match(0), x.matched(1, 0), x.beside(-1), x.beside(0), x.expect(0), x.expect(1),
        x.next(), x.best(0), x.best(4), x.on(1, 0, 0), x.left(1), x.seat(1, 2, 0), x.stand(0, 1, 9), x.wanting(0, 0, 0)};
  }

  /** All that can be set is set to something else, and gone back to: no answer stays as it was in between. */
  private void imagesKeepWhatIsSet() {
    due.sentence("V", "BACK to one all that it keeps is as it was then ");
    RedMarks x = NumberEdges.books(3);
    x.mark(2, 0, 4);
    x.fact(1, 2, 8);
    x.fact(2, 2, 9);
    x.image(1);
    due.newText(x, Edges.BY_MARK);
    due.newText(x, "bay 1;place number");
    x.line(5, 0, 30, 0, 1);
    x.line(5, 3, 1, 0, 3);
    x.list(0, 1);
    x.list(1, 2);
    x.bay(0, 2);
    x.shelf(0, 0, 7, 7);
    x.binder(0, 0, 60);
    x.stack(1);
    x.stack(2);
    x.house(0, 10, 5, 3);
    x.house(1, 11, 5, 1);
    x.fact(2, 11, 1);
    x.fact(2, 8, 5);
    x.keep(0, 1, 9);
    int[] ahead = told(x);
    x.image(0);
    x.back(1);
    due.newText(x, "bay 2;place thick");
    due.newText(x, "bay 3;place thick");
    x.line(9, 1, 15, -1, -1);
    x.image(1);
    x.back(0);
    changeAll(x);
    int[] between = told(x);
    due.is("back", x.back(0), 0);
    int[] then = told(x);
    for (int n = 0; n < ahead.length; n++) {
      due.is("answer " + n, then[n], ahead[n]);
      due.holds("answer " + n + " was another in between: " + between[n], between[n] != ahead[n]);
    }
    due.is("side", x.bay(0, 0), 2);
    due.is("list", x.list(0, 0), 1);
    due.is("list of the other", x.list(1, 0), 2);
    x.fact(0, 2, 60);
    due.is("bound within", x.bound(0), 0);
    x.fact(0, 2, 61);
    due.is("bound behind", x.bound(0), 1);
    x.fact(0, 2, 0);
    x.fact(0, 4, 7);
    due.is("not too tall", x.how(0), 4);
    x.fact(0, 4, 8);
    due.is("too tall", x.how(0), 2);
    x.back(1);
    due.is("the other image's first text", x.seat(0, 0, 0), 2);
    due.is("the other image's second text", x.seat(1, 0, 0), 3);
    due.is("the other image's line", x.agree(0, 0), 0);
    x.back(0);
    due.is("the first's first text again", x.seat(0, 0, 0), 0);
    due.is("the first's second text again", x.seat(1, 0, 0), 1);
    due.is("the first's line again", x.agree(0, 0), 7);
  }

  private static void changeAll(RedMarks x) {
    x.mark(0, 8, 99);
    for (int f = 2; f < 12; f++) {
      x.fact(0, f, f == 5 ? 1 : 7);
    }
    for (int number = 96; number <= 99; number++) {
      x.book(0, number, 0, 1, 1);
    }
    x.mark(1, -1, -1);
    x.mark(2, -1, -1);
    x.bay(0, 0);
    x.shelf(0, 0, 9, 5);
    x.list(0, 2);
    x.list(1, 2);
    x.binder(0, 50, 50);
    x.clear();
    x.stack(2);
    x.stack(0);
    x.stack(1);
    x.house(0, 20, 1, 1);
    x.house(1, 20, 1, 100);
    x.line(0, 0, 1, -1, -1);
    x.line(7, 7, 7, 8, 99);
    x.keep(1, 0, 8);
    Due.text(x, "bay damp;place thick;shelf word if word<6");
  }

  private void imagesStay() {
    due.sentence("V", "(IMAGES stay).");
    RedMarks x = NumberEdges.books(1);
    x.image(0);
    x.book(0, 1, 0, 1, 1);
    x.image(1);
    for (int n = 0; n < 3; n++) {
      due.is("back to one", x.back(0), 0);
      due.is("one", x.count(0), 1);
      x.fact(0, 8, n + 1);
      due.is("back to two", x.back(1), 0);
      due.is("two", x.count(0), 2);
      due.is("as it was", x.of(0, 8), 0);
    }
    x.back(0);
    x.image(1);
    x.book(0, 1, 0, 1, 1);
    x.back(1);
    due.is("the second is kept anew", x.count(0), 1);
    x.back(0);
    due.is("the first is as it was", x.count(0), 1);
  }

  private void rowAnswers() {
    due.sentence("10", "A ROW of BOOKS, the TAPE is empty then: how many came. -6 the TAPE is empty.");
    RedMarks x = NumberEdges.books(1);
    due.is("empty", x.row(), -6);
    Due.tape(x, five(1, 2, 3, 4, 5));
    due.is("one", x.row(), 1);
    due.is("empty then", x.count(6), 0);
    due.is("empty again", x.row(), -6);
    Due.tape(x, "x");
    due.is("none of one byte", x.row(), 0);
    due.is("empty then, too", x.count(6), 0);
    due.is("books", x.count(0), 2);
    due.is("refused by -6", x.count(11), 2);
  }

  private void reboundAnswers() {
    due.sentence("11", "How many were REBOUND in the latest row() that was not REFUSED (0 ahead of any).");
    RedMarks x = new RedMarks();
    due.is("ahead of any", x.rebound(), 0);
    x.row();
    due.is("behind a refused one", x.rebound(), 0);
    Due.tape(x, "12345678901");
    x.row();
    due.is("three", x.rebound(), 3);
    x.row();
    due.is("three still", x.rebound(), 3);
    Due.tape(x, "1");
    x.text();
    due.is("a text has nothing to do with it", x.rebound(), 3);
    Due.tape(x, five(1, 2, 3, 4, 5));
    x.row();
    due.is("none", x.rebound(), 0);
  }

  private void houseAnswers() {
    due.sentence("41", "ALL, LOOKED, COST of a HOUSE: 0. -1.");
    RedMarks x = NumberEdges.books(1);
    due.is("the most", x.house(11, 5000, 5000, 100), 0);
    due.is("the least", x.house(11, 0, 0, 1), 0);
    due.range("house", 0, 11, -1, house -> x.house(house, 0, 0, 1));
    due.range("all", 3, 5000, -1, all -> x.house(0, all, 3, 1));
    due.range("looked", 0, 3, -1, looked -> x.house(0, 3, looked, 1));
    due.range("cost", 1, 100, -1, cost -> x.house(0, 3, 3, cost));
    x.house(0, 3, 1, 1);
    due.is("wrong", x.house(0, 3, 4, 1), -1);
    due.is("as it was", x.expect(0), 200);
  }

  private void expectAnswers() {
    due.sentence("42", "To be FOUND in a HOUSE, in hundredths, cut. NONE (without LOOKED, too).");
    RedMarks x = NumberEdges.books(2);
    for (int house = 0; house < 12; house++) {
      x.house(house, 5, 3, 1);
    }
    due.range("house", 0, 11, -1, x::expect);
    due.is("2 times 2 through 3", x.expect(0), 133);
    due.is("none found", x.expect(11), 0);
    x.house(0, 5, 0, 1);
    due.is("without looked", x.expect(0), -1);
    x.house(0, 5, 5, 1);
    due.is("all looked at", x.expect(0), 0);
  }

  private void nextAnswers() {
    due.sentence("43", "NEXT; NONE (no HOUSE with LOOKED).");
    RedMarks x = NumberEdges.books(1);
    due.is("at first", x.next(), -1);
    x.house(0, 5000, 0, 1);
    due.is("all, but not looked", x.next(), -1);
    x.house(11, 1, 1, 100);
    due.is("the one that was, with nothing to be found", x.next(), 11);
    x.house(5, 7, 1, 1);
    due.is("two with nothing", x.next(), 5);
    x.fact(0, 11, 11);
    due.is("still nothing: all was looked at", x.next(), 5);
    x.house(11, 2, 1, 100);
    due.is("something", x.next(), 11);
    x.house(11, 2, 0, 100);
    due.is("not looked at any more", x.next(), 5);
  }

  private void leftAnswers() {
    due.sentence("44", "LEFT: by counts (what 0; NONE without a LINE that has a BOOK), at least (1). NONE.");
    RedMarks x = new RedMarks();
    due.is("nothing: by counts", x.left(0), -1);
    due.is("nothing: at least", x.left(1), 0);
    x.line(0, 0, 1, 0, 1);
    due.is("a line: by counts", x.left(0), -1);
    due.is("a line: at least", x.left(1), 1);
    x.book(0, 1, 0, 1, 1);
    due.is("both: by counts", x.left(0), 1);
    due.is("both: at least", x.left(1), 1);
    due.range("what", 0, 1, -1, x::left);
  }

  private void grewAnswers() {
    due.sentence("45", "How many CAME from a YEAR 0 .. 199 on for so many years 1 .. 200, of a SUBJECT (NONE: any). NONE.");
    RedMarks x = new RedMarks();
    int[] came = {0, 1, 99, 100, 199};
    for (int n = 0; n < 5; n++) {
      x.book(-1, -1, came[n], 1, 1);
      x.fact(n, 10, n % 2 * 7);
    }
    int[][] asked = {{0, 1, -1, 1}, {0, 2, -1, 2}, {1, 1, -1, 1}, {2, 97, -1, 0}, {2, 98, -1, 1}, {99, 1, -1, 1},
        {99, 2, -1, 2}, {100, 99, -1, 1}, {100, 100, -1, 2}, {0, 199, -1, 4}, {0, 200, -1, 5}, {199, 1, -1, 1},
        {199, 200, -1, 1}, {0, 200, 0, 3}, {0, 200, 7, 2}, {0, 200, 3, 0}};
    for (int[] each : asked) {
      due.is("from " + each[0] + " for " + each[1] + " of " + each[2], x.grew(each[0], each[1], each[2]), each[3]);
    }
    due.range("year", 0, 199, -1, year -> x.grew(year, 1, -1));
    due.range("years", 1, 200, -1, years -> x.grew(0, years, -1));
    due.range("subject", -1, 7, -2, subject -> orTwo(x.grew(0, 1, subject)));
  }

  /** NONE as -2, so that a subject NONE can be asked within a range. */
  private static int orTwo(int answer) {
    return answer == -1 ? -2 : answer;
  }

  private void scatterAnswers() {
    due.sentence("46", "A WORLD, kept as the latest: how many are BURNT. -1.");
    RedMarks x = NumberEdges.books(40);
    due.is("all", x.scatter(0, 100), 40);
    due.is("none", x.scatter(0, 0), 0);
    int house = x.went(39);
    due.is("wrong seed", x.scatter(1000001, 100), -1);
    due.is("wrong burn", x.scatter(0, 101), -1);
    due.is("the latest is as it was", x.went(39), house);
    due.is("it was not burnt", house, Due.drawn(0, 0, 40)[39]);
    RedMarks empty = new RedMarks();
    due.is("without books", empty.scatter(0, 100), 0);
  }

  private void wentAnswers() {
    due.sentence("47", "The HOUSE of a BOOK in the latest WORLD; NONE: BURNT, there is none.");
    RedMarks x = NumberEdges.books(39);
    due.is("no world", x.went(0), -1);
    x.scatter(0, 0);
    due.is("the first", x.went(0), 628841 % 12);
    due.row("went", x::went, -1, Due.drawn(0, 0, 39));
    x.book(0, 1, 0, 1, 1);
    due.is("one that came behind it", x.went(39), -1);
    x.scatter(0, 100);
    due.is("burnt", x.went(0), -1);
    x.scatter(0, 0);
    due.row("went then", x::went, -1, Due.drawn(0, 0, 40));
    x.fact(0, 11, (x.went(0) + 1) % 12);
    due.is("the fact HOUSE has nothing to do with it", x.went(0), 628841 % 12);
  }

  private void togetherAnswers() {
    due.sentence("48", "How many BOOKS of a SHELF of the KEPT HISTORY are in one HOUSE at least two of them, together, "
        + "in the latest WORLD. NONE.");
    int[] houses = Due.drawn(0, 0, 40);
    for (int size = 1; size <= 40; size++) {
      RedMarks x = new RedMarks();
      due.newText(x, "bay 8;shelf 5;place number");
      x.keep(0, 0, 0);
      int[] there = new int[12];
      for (int n = 0; n < size; n++) {
        x.book(0, n + 1, 0, 1, 1);
        there[houses[n]]++;
      }
      x.scatter(0, 0);
      int want = 0;
      for (int many : there) {
        want += many >= 2 ? many : 0;
      }
      due.is("of " + size, x.together(8, 5), want);
      due.is("on another shelf", x.together(8, 4), 0);
      x.scatter(0, 100);
      due.is("all burnt", x.together(8, 5), 0);
    }
  }

  private void togetherNone() {
    due.sentence("48", "in the latest WORLD. NONE.");
    RedMarks x = NumberEdges.books(2);
    due.newText(x, Edges.BY_MARK);
    due.is("neither", x.together(0, 0), -1);
    x.keep(0, 0, 0);
    due.is("no world", x.together(0, 0), -1);
    x.scatter(0, 0);
    due.range("bay", 0, 8, -1, bay -> x.together(bay, 5));
    due.range("shelf", 0, 5, -1, shelf -> x.together(8, shelf));
    RedMarks unkept = NumberEdges.books(2);
    unkept.scatter(0, 0);
    due.is("none kept", unkept.together(0, 0), -1);
  }
}
