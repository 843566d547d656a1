/** Term III and promises 14 to 22, 30, 31 and 48: seats, histories, shelves, gaps. */
final class ShelfEdges {
  private final Edges due;

  ShelfEdges(Edges due) {
    this.due = due;
  }

  void all() {
    seatsOfSchemes();
    shelfUntold();
    rightByHeight();
    rightByHole();
    seatAnswers();
    historiesByYears();
    standsFirst();
    bestOfAlike();
    bestYears();
    keptNone();
    shelvesByPlaces();
    gapsOfShelves();
    freeOfShelves();
    fullShelf();
    emptyShelf();
    slacks();
    answers();
  }

  private void answers() {
    standAnswers();
    bestAnswers();
    keepAnswers();
    howAnswers();
    onAnswers();
    freeAnswers();
    gapAnswers();
    couldAnswers();
    couldWithLines();
    nearestOnes();
    nearestRoom();
    nearestAnswers();
    closeOnes();
    closeAnswers();
  }

  /** Books with letter 0, so many numbers from 1 on, all standing by the one text on shelf 0 of bay 0. */
  private RedMarks oneShelf(int... numbers) {
    RedMarks x = new RedMarks();
    due.newText(x, Edges.BY_MARK);
    for (int number : numbers) {
      x.book(0, number, 0, 1, 1);
    }
    x.keep(0, 0, 0);
    return x;
  }

  private void seatOf(String text, int bay, int shelf, int place) {
    RedMarks x = new RedMarks();
    x.book(0, 1, 0, 1, 1);
    due.newText(x, text);
    int[] want = {bay, shelf, place, bay < 0 ? -1 : 1};
    for (int what = 0; what < 4; what++) {
      due.is("seat " + what + " by \"" + text + "\"", x.seat(0, 0, what), want[what]);
    }
  }

  private void seatsOfSchemes() {
    due.sentence("III", "By a SCHEME (a TEXT) a BOOK with a MARK has a SEAT, if it tells a BAY 0 .. 8, a SHELF 0 .. 5 ");
    due.sentence("III", "and a PLACE 1 .. 99 of it.");
    seatOf("bay 0;shelf 0;place 1", 0, 0, 1);
    seatOf("bay 8;shelf 5;place 99", 8, 5, 99);
    seatOf("bay 9;shelf 5;place 99", -1, -1, -1);
    seatOf("bay 0-1;shelf 5;place 99", -1, -1, -1);
    seatOf("bay 8;shelf 6;place 99", -1, -1, -1);
    seatOf("bay 8;shelf 0-1;place 99", -1, -1, -1);
    seatOf("bay 8;shelf 5;place 100", -1, -1, -1);
    seatOf("bay 8;shelf 5;place 0", -1, -1, -1);
    seatOf("bay 8;shelf 5;place 0-1", -1, -1, -1);
    seatOf("bay 1000*1000*1000;place 1", -1, -1, -1);
    seatOf("bay 0;place 0-1000*1000*1000", -1, -1, -1);
    seatOf("shelf 5;place 99", -1, -1, -1);
    seatOf("bay 8;shelf 5", -1, -1, -1);
    seatOf("false", -1, -1, -1);
    RedMarks x = new RedMarks();
    x.book(-1, -1, 0, 1, 1);
    due.newText(x, "bay 0;place 1");
    due.is("without a mark", x.seat(0, 0, 0), -1);
    x.mark(0, 8, 99);
    due.is("with a mark", x.seat(0, 0, 0), 0);
  }

  private void shelfUntold() {
    due.sentence("III", "(0, if it tells nothing of it)");
    seatOf("bay 8;place 99", 8, 0, 99);
    seatOf("bay 8;shelf 5 if 1=2;place 99", 8, 0, 99);
    seatOf("bay 8;shelf 5/0;place 99", 8, 0, 99);
    seatOf("bay 8;shelf 6;shelf 5/0;place 99", -1, -1, -1);
    seatOf("bay 8;shelf 6;shelf 5;place 99", 8, 5, 99);
  }

  private void rightByHeight() {
    due.sentence("III", "The SEAT is RIGHT, if it is not TALLER than the SHELF is HIGH, ");
    RedMarks x = oneShelf(1);
    x.shelf(0, 0, 100, 20);
    int[] talls = {19, 20, 21};
    int[] right = {1, 1, 0};
    for (int n = 0; n < 3; n++) {
      x.fact(0, 4, talls[n]);
      due.is("tall " + talls[n], x.seat(0, 0, 3), right[n]);
    }
    x.fact(0, 4, 40);
    x.shelf(0, 0, 100, 60);
    due.is("the tallest on the highest", x.seat(0, 0, 3), 1);
    x.shelf(0, 0, 100, 1);
    due.is("the tallest on the lowest", x.seat(0, 0, 3), 0);
    x.fact(0, 4, 1);
    due.is("the least tall on the lowest", x.seat(0, 0, 3), 1);
    x.shelf(0, 1, 100, 60);
    x.fact(0, 4, 2);
    due.is("another shelf does not matter", x.seat(0, 0, 3), 0);
  }

  private void rightByHole() {
    due.sentence("III", "and its HOLE is not on the other side than the BAY's (SIDE, HOLE both not 0 and unlike: it is).");
    RedMarks x = oneShelf(1);
    int[][] right = {{1, 1, 1}, {1, 1, 0}, {1, 0, 1}};
    for (int side = 0; side < 3; side++) {
      for (int hole = 0; hole < 3; hole++) {
        x.bay(0, side);
        x.fact(0, 5, hole);
        due.is("side " + side + ", hole " + hole, x.seat(0, 0, 3), right[side][hole]);
        due.is("it has a seat", x.seat(0, 0, 0), 0);
        due.is("how", x.how(0), right[side][hole] == 1 ? 4 : 2);
        x.fact(0, 5, 0);
        due.is("how without a hole", x.how(0), 4);
        x.fact(0, 5, hole);
        x.bay(0, 0);
        due.is("how on any side", x.how(0), 4);
        x.bay(0, side);
        due.is("how on this side", x.how(0), right[side][hole] == 1 ? 4 : 2);
      }
    }
  }

  private void seatAnswers() {
    due.sentence("14", "SEAT of a BOOK by a SCHEME: BAY (what 0), SHELF (1), PLACE (2), 1 if it is RIGHT, else 0 (3). "
        + "NONE (no SEAT, too).");
    RedMarks x = new RedMarks();
    x.book(8, 99, 0, 1, 40);
    x.book(-1, -1, 0, 1, 1);
    due.newText(x, "bay letter;shelf 5;place number");
    due.row("what", what -> x.seat(0, 0, what), -1, 8, 5, 99, 1);
    due.is("what -1", x.seat(0, 0, -1), -1);
    x.shelf(8, 5, 100, 39);
    due.is("not right", x.seat(0, 0, 3), 0);
    due.is("its place", x.seat(0, 0, 2), 99);
    due.range("text", 0, 0, -1, text -> x.seat(text, 0, 0));
    due.range("book", 0, 0, -1, book -> x.seat(0, book, 0));
    due.row("what of no seat", what -> x.seat(0, 1, what), -1, -1, -1, -1, -1);
  }

  private void historiesByYears() {
    due.sentence("III", "A HISTORY is two SCHEMES and a YEAR 0 .. 200: BOOKS that CAME ahead of it have SEATS by the first, "
        + "others by the second.");
    RedMarks x = new RedMarks();
    due.newText(x, "bay 1;place 1+came/100");
    due.newText(x, "bay 2;place 1+came/100");
    x.book(0, 1, 0, 1, 1);
    x.book(0, 1, 199, 1, 1);
    int[] years = {0, 1, 199, 200};
    int[][] bays = {{2, 2}, {1, 2}, {1, 2}, {1, 1}};
    for (int n = 0; n < 4; n++) {
      x.keep(0, 1, years[n]);
      due.is("came 0, year " + years[n], x.on(bays[n][0], 0, 0), 0);
      due.is("came 199, year " + years[n], x.on(bays[n][1], 0, bays[n][0] == bays[n][1] ? 1 : 0), 1);
      x.keep(1, 0, years[n]);
      due.is("schemes the other way, came 0, year " + years[n], x.on(3 - bays[n][0], 0, 0), 0);
    }
    due.range("year", 0, 200, -1, year -> x.stand(0, 1, year));
    due.range("year kept", 0, 200, -1, year -> x.keep(0, 1, year));
  }

  private void standsFirst() {
    due.sentence("III", "A BOOK STANDS in it, if its SEAT is RIGHT and no BOOK with a lower number that STANDS has the same.");
    RedMarks x = oneShelf(7, 7, 7, 8);
    due.is("two seats", x.stand(0, 0, 0), 2);
    due.row("how", x::how, -1, 4, 3, 3, 4);
    x.shelf(0, 0, 100, 20);
    x.fact(0, 4, 21);
    due.row("how, the first not right", x::how, -1, 2, 4, 3, 4);
    due.is("two seats still", x.stand(0, 0, 0), 2);
    x.fact(1, 4, 21);
    x.fact(2, 4, 21);
    due.row("how, none right there", x::how, -1, 2, 2, 2, 4);
    due.is("one seat", x.stand(0, 0, 0), 1);
    x.mark(0, 8, 7);
    due.is("on another bay", x.how(0), 4);
    RedMarks full = oneShelf();
    for (int n = 0; n < 40; n++) {
      full.book(8, 99, 0, 1, 1);
    }
    due.is("forty with one seat", full.stand(0, 0, 0), 1);
    due.is("the last of them", full.how(39), 3);
  }

  /** Text 0 seats none, 1 and 2 seat each book by its own number in bays 1 and 2. */
  private RedMarks threeSchemes(int... came) {
    RedMarks x = new RedMarks();
    due.newText(x, "false");
    due.newText(x, "bay 1;place number");
    due.newText(x, "bay 2;place number");
    for (int n = 0; n < came.length; n++) {
      x.book(0, n + 1, came[n], 1, 1);
    }
    return x;
  }

  private void best(RedMarks x, int... want) {
    for (int what = 0; what < 5; what++) {
      due.is("best(" + what + ")", x.best(what), want[what]);
    }
  }

  private void bestOfAlike() {
    due.sentence("III", "BEST: the HISTORY in which most STAND; of alike ones the first by the first SCHEME, the second, the YEAR.");
    // without books all are alike
    best(threeSchemes(), 0, 0, 0, 0, 9 * 201);
    // one that came 0: by 1 or 2 as second in year 0, as first from year 1 on
    best(threeSchemes(0), 1, 0, 1, 0, 2 * 3 * 200 + 2 * 3);
    // one that came 199: as second in years 0 .. 199, as first in year 200
    best(threeSchemes(199), 1, 0, 1, 0, 2 * 3 * 200 + 2 * 3);
    // both: the pairs of 1 and 2 in all years; 0 first in year 0 alone; 0 second in year 200 alone
    best(threeSchemes(0, 199), 2, 0, 1, 0, 4 * 201 + 2 + 2);
    RedMarks x = threeSchemes(100, 100);
    x.mark(1, 0, 1);
    best(x, 1, 0, 1, 0, 4 * 201 + 2 * 101 + 2 * 100);
    x.bay(1, 1);
    x.fact(0, 5, 2);
    x.fact(1, 5, 2);
    // by 1 none is right now
    best(x, 1, 0, 2, 0, 201 + 2 * 101 + 2 * 100);
  }

  private void bestYears() {
    due.sentence("III", "of alike ones the first by the first SCHEME, the second, the YEAR.");
    RedMarks x = threeSchemes(10, 199);
    x.mark(1, 0, 1);
    // both by place 1: they stand both only in unlike bays, years 11 .. 199
    best(x, 2, 1, 2, 11, 2 * 189);
    x.fact(1, 2, 11);
    best(x, 2, 1, 2, 11, 2);
    x.fact(0, 2, 0);
    x.fact(1, 2, 1);
    best(x, 2, 1, 2, 1, 2);
    x.fact(0, 2, 198);
    x.fact(1, 2, 199);
    best(x, 2, 1, 2, 199, 2);
    // the later one has the lower number
    x.fact(1, 2, 10);
    best(x, 2, 1, 2, 11, 2 * 188);
    x.fact(1, 2, 199);
    x.fact(0, 2, 199);
    // never apart
    best(x, 1, 0, 1, 0, 4 * 201 + 2 * 200 + 2);
    // books in no order of years: 0 and 1 have one place, 2 and 3 another
    RedMarks y = threeSchemes(150, 10, 80, 120);
    y.mark(1, 0, 1);
    y.mark(3, 0, 3);
    best(y, 4, 1, 2, 81, 2 * 40);
    y.fact(0, 2, 100);
    best(y, 4, 1, 2, 81, 2 * 20);
    y.fact(2, 2, 0);
    best(y, 4, 1, 2, 11, 2 * 90);
  }

  private void keptNone() {
    due.sentence("III", "One HISTORY is KEPT (none at first): ");
    RedMarks x = new RedMarks();
    due.newText(x, Edges.BY_MARK);
    due.newText(x, "bay 1;place number");
    x.book(0, 1, 0, 1, 1);
    x.stand(0, 0, 0);
    x.best(0);
    due.is("none: how", x.how(0), -1);
    due.is("none: on", x.on(0, 0, 0), -1);
    due.is("none: free", x.free(0, 0), Edges.NOTHING);
    due.is("none: gap", x.gap(0, 0, -1, 0), -1);
    due.is("none: could", x.could(0, 0, 400, -1), -1);
    due.is("none: nearest", x.nearest(0, 0), -1);
    due.is("none: close", x.close(0, 0), -1);
    due.is("none: close on all", x.close(-1, -1), -1);
    due.is("none: count", x.count(5), 0);
    x.scatter(0, 0);
    due.is("none: together", x.together(0, 0), -1);
    x.keep(0, 0, 0);
    due.is("the first", x.on(0, 0, 0), 0);
    x.keep(1, 1, 0);
    due.is("one alone: not the first", x.on(0, 0, 0), -1);
    due.is("one alone: the second", x.on(1, 0, 0), 0);
  }

  private void shelvesByPlaces() {
    due.sentence("III", "SHELVES by it: BOOKS that STAND there, by PLACES.");
    RedMarks x = oneShelf(99, 1, 50, 2, 98, 50);
    due.row("on", i -> x.on(0, 0, i), -1, 1, 3, 2, 4, 0);
    x.mark(1, 1, 1);
    due.row("on, the first gone", i -> x.on(0, 0, i), -1, 3, 2, 4, 0);
    due.row("on, where it went", i -> x.on(1, 0, i), -1, 1);
    x.fact(2, 4, 40);
    x.shelf(0, 0, 100, 39);
    due.row("on, another stands there", i -> x.on(0, 0, i), -1, 3, 5, 4, 0);
  }

  private void gaps(RedMarks x, int[]... want) {
    int places = 0;
    for (int i = 0; i < want.length; i++) {
      due.is("first place of gap " + i, x.gap(0, 0, i, 0), want[i][0]);
      due.is("places of gap " + i, x.gap(0, 0, i, 1), want[i][1]);
      places += want[i][1];
    }
    due.is("gaps", x.gap(0, 0, -1, 0), want.length);
    due.is("places in all", x.gap(0, 0, -1, 1), places);
    due.is("no gap more", x.gap(0, 0, want.length, 0), -1);
    due.is("no places more", x.gap(0, 0, want.length, 1), -1);
  }

  private void gapsOfShelves() {
    due.sentence("III", "GAPS of a SHELF: from PLACE 1 on all rows of PLACES without a BOOK ahead of one that STANDS there, "
        + "as long as can be, in order.");
    gaps(oneShelf());
    gaps(oneShelf(1));
    gaps(oneShelf(2), new int[] {1, 1});
    gaps(oneShelf(99), new int[] {1, 98});
    gaps(oneShelf(1, 2, 3));
    gaps(oneShelf(1, 99), new int[] {2, 97});
    gaps(oneShelf(98, 99), new int[] {1, 97});
    gaps(oneShelf(99, 97), new int[] {1, 96}, new int[] {98, 1});
    gaps(oneShelf(2, 4, 6), new int[] {1, 1}, new int[] {3, 1}, new int[] {5, 1});
    RedMarks x = oneShelf(5, 10);
    gaps(x, new int[] {1, 4}, new int[] {6, 4});
    x.fact(1, 4, 40);
    x.shelf(0, 0, 100, 39);
    gaps(x, new int[] {1, 4});
  }

  private void freeOfShelves() {
    due.sentence("III", "FREE is how much WIDE is above the THICK of those on it (below 0: too much).");
    RedMarks x = oneShelf(1, 2, 2);
    x.shelf(0, 0, 60, 40);
    x.fact(0, 3, 30);
    x.fact(1, 3, 29);
    x.fact(2, 3, 30);
    due.is("1", x.free(0, 0), 1);
    x.fact(1, 3, 30);
    due.is("0", x.free(0, 0), 0);
    x.shelf(0, 0, 59, 40);
    due.is("-1", x.free(0, 0), -1);
    RedMarks full = oneShelf();
    for (int n = 0; n < 40; n++) {
      full.book(0, n + 1, 0, 30, 1);
    }
    full.shelf(0, 0, 1, 40);
    due.is("forty of 30 on wide 1", full.free(0, 0), 1 - 40 * 30);
    full.shelf(0, 0, 400, 40);
    due.is("forty of 30 on wide 400", full.free(0, 0), 400 - 40 * 30);
  }

  private void fullShelf() {
    due.sentence("III", "FREE is how much WIDE is above the THICK of those on it ");
    RedMarks x = oneShelf(1, 2, 3);
    x.shelf(0, 0, 3, 40);
    // it agrees with each book by -4, so it is missing
    x.line(900, 7, 1, 8, 99);
    x.book(0, 1, 0, 1, 1);
    due.is("full: free", x.free(0, 0), 0);
    due.is("full: gaps", x.gap(0, 0, -1, 0), 0);
    due.is("full: the empty set could be there", x.could(0, 0, 0, -1), 1);
    due.is("full: with any slack", x.could(0, 0, 400, -1), 1);
    due.is("full: no line could", x.could(0, 0, 400, 0), 0);
    due.is("full: nearest", x.nearest(3, 0), -1);
    x.shelf(0, 0, 4, 40);
    due.is("one free: nearest", x.nearest(3, 0), 0);
    due.is("one free: the line could", x.could(0, 0, 400, 0), 1);
    due.is("one free: the line alone without slack", x.could(0, 0, 0, -1), 1);
    due.is("one free: it or none", x.could(0, 0, 1, -1), 2);
  }

  private void emptyShelf() {
    due.sentence("III", "SHELVES by it: BOOKS that STAND there, by PLACES.");
    RedMarks x = oneShelf(1);
    x.scatter(0, 0);
    due.is("empty: on", x.on(8, 5, 0), -1);
    due.is("empty: free", x.free(8, 5), 100);
    due.is("empty: gaps", x.gap(8, 5, -1, 0), 0);
    due.is("empty: places", x.gap(8, 5, -1, 1), 0);
    due.is("empty: first gap", x.gap(8, 5, 0, 0), -1);
    due.is("empty: close", x.close(8, 5), 0);
    due.is("empty: together", x.together(8, 5), 0);
    due.is("empty: could, nothing missing", x.could(8, 5, 100, -1), 1);
  }

  private void slacks() {
    due.sentence("III", "THICK together of those that could be in a GAP: at most FREE, and FREE less SLACK at least.");
    RedMarks x = oneShelf();
    x.shelf(0, 0, 30, 40);
    // missing: 10 and 20
    x.line(900, 7, 10, -1, -1);
    x.line(900, 7, 20, -1, -1);
    int[] slack = {0, 9, 10, 19, 20, 29, 30, 400};
    int[] sets = {1, 1, 2, 2, 3, 3, 4, 4};
    for (int n = 0; n < slack.length; n++) {
      due.is("free 30, slack " + slack[n], x.could(0, 0, slack[n], -1), sets[n]);
    }
    x.shelf(0, 0, 29, 40);
    due.is("free 29", x.could(0, 0, 400, -1), 3);
    x.shelf(0, 0, 19, 40);
    due.is("free 19", x.could(0, 0, 400, -1), 2);
    x.shelf(0, 0, 9, 40);
    due.is("free 9", x.could(0, 0, 400, -1), 1);
    due.is("free 9, slack 8", x.could(0, 0, 8, -1), 0);
    x.shelf(0, 0, 400, 40);
    due.is("free 400, slack 400", x.could(0, 0, 400, -1), 4);
    due.is("free 400, slack 399", x.could(0, 0, 399, -1), 3);
    due.is("free 400, slack 369", x.could(0, 0, 369, -1), 0);
    due.is("free 400, slack 370", x.could(0, 0, 370, -1), 1);
  }

  private void standAnswers() {
    due.sentence("15", "How many STAND in a HISTORY. NONE.");
    RedMarks x = oneShelf(1, 2);
    due.is("two", x.stand(0, 0, 0), 2);
    due.range("first", 0, 0, -1, first -> x.stand(first, 0, 0));
    due.range("second", 0, 0, -1, second -> x.stand(0, second, 0));
    due.range("year", 0, 200, -1, year -> x.stand(0, 0, year));
    due.is("a second that is not asked has to be there, too", x.stand(0, 1, 200), -1);
    RedMarks full = new RedMarks();
    for (int n = 0; n < 8; n++) {
      due.newText(full, Edges.BY_MARK);
    }
    due.is("no books", full.stand(7, 7, 200), 0);
    for (int n = 0; n < 40; n++) {
      full.book(n % 9, n / 9 + 1, n, 1, 1);
    }
    due.range("first of eight", 0, 7, -1, first -> full.stand(first, 7, 20));
    due.is("forty", full.stand(0, 7, 20), 40);
  }

  private void bestAnswers() {
    due.sentence("16", "BEST: how many STAND (what 0), the first SCHEME (1), the second (2), the YEAR (3), "
        + "how many HISTORIES are as good (4). NONE (without TEXTS).");
    RedMarks x = new RedMarks();
    x.book(0, 1, 0, 1, 1);
    for (int what = -1; what <= 5; what++) {
      due.is("without texts, what " + what, x.best(what), -1);
    }
    due.newText(x, Edges.BY_MARK);
    due.row("with one", x::best, -1, 1, 0, 0, 0, 201);
    due.is("what -1", x.best(-1), -1);
    for (int n = 1; n < 8; n++) {
      due.newText(x, Edges.BY_MARK);
    }
    due.row("with eight", x::best, -1, 1, 0, 0, 0, 64 * 201);
    x.mark(0, -1, -1);
    due.row("with eight, none stands", x::best, -1, 0, 0, 0, 0, 64 * 201);
  }

  private void keepAnswers() {
    due.sentence("17", "A HISTORY is KEPT: how many STAND. -1 (YEAR); -2.");
    RedMarks x = oneShelf(1, 2);
    due.is("two", x.keep(0, 0, 0), 2);
    for (int year : new int[] {-1, 201, Edges.SMALL, Edges.BIG}) {
      due.is("year " + year, x.keep(0, 0, year), -1);
      due.is("year " + year + ", no text", x.keep(1, 1, year), -1);
    }
    due.range("first", 0, 0, -2, first -> x.keep(first, 0, 200));
    due.range("second", 0, 0, -2, second -> x.keep(0, second, 200));
    due.newText(x, "bay 9");
    due.is("none stands", x.keep(1, 1, 200), 0);
    due.is("none does", x.count(5), 0);
    due.is("refused", x.keep(0, 0, 201), -1);
    due.is("refused", x.keep(0, 2, 0), -2);
    due.is("kept as it was", x.how(0), 1);
  }

  private void howAnswers() {
    due.sentence("18", "How a BOOK is in the KEPT HISTORY: 0 it has no MARK, 1 no SEAT, 2 the SEAT is not RIGHT, "
        + "3 another one STANDS there, 4 it STANDS. NONE (none KEPT, too).");
    RedMarks x = new RedMarks();
    due.newText(x, "bay letter;place number-1");
    int[] numbers = {-1, 1, 5, 7, 7};
    for (int number : numbers) {
      x.book(number < 0 ? -1 : 0, number, 0, 1, 1);
    }
    due.row("none kept", x::how, -1, -1, -1, -1, -1, -1);
    x.shelf(0, 0, 100, 1);
    x.fact(2, 4, 2);
    x.keep(0, 0, 0);
    due.row("how", x::how, -1, 0, 1, 2, 4, 3);
    due.is("how(-1)", x.how(-1), -1);
    x.fact(4, 4, 2);
    due.is("not right comes ahead of another", x.how(4), 2);
    x.fact(0, 4, 40);
    due.is("no mark comes ahead of not right", x.how(0), 0);
  }

  private void onAnswers() {
    due.sentence("19", "The i-th BOOK on a SHELF of the KEPT HISTORY by PLACES. NONE.");
    RedMarks x = new RedMarks();
    due.newText(x, "bay letter;shelf star;place number");
    x.book(0, 99, 0, 1, 1);
    x.book(8, 99, 0, 1, 1);
    x.book(8, 1, 0, 1, 1);
    x.fact(1, 7, 5);
    x.fact(2, 7, 5);
    due.is("none kept", x.on(0, 0, 0), -1);
    x.keep(0, 0, 0);
    due.range("bay", 0, 0, -1, bay -> x.on(bay, 0, 0));
    due.is("bay 8", x.on(8, 5, 0), 2);
    due.is("bay 9", x.on(9, 5, 0), -1);
    due.is("shelf 6", x.on(8, 6, 0), -1);
    due.is("shelf -1", x.on(8, -1, 0), -1);
    due.row("i", i -> x.on(8, 5, i), -1, 2, 1);
    due.is("i -1", x.on(8, 5, -1), -1);
    RedMarks full = oneShelf();
    int[] want = new int[40];
    for (int n = 0; n < 40; n++) {
      full.book(0, 40 - n, 0, 1, 1);
      want[n] = 39 - n;
    }
    due.row("forty on one shelf", i -> full.on(0, 0, i), -1, want);
  }

  private void freeAnswers() {
    due.sentence("20", "FREE of a SHELF. NOTHING without (none KEPT, too).");
    RedMarks x = new RedMarks();
    due.newText(x, Edges.BY_MARK);
    due.is("none kept", x.free(0, 0), Edges.NOTHING);
    x.keep(0, 0, 0);
    due.range("bay", 0, 8, Edges.NOTHING, bay -> x.free(bay, 3));
    due.range("shelf", 0, 5, Edges.NOTHING, shelf -> x.free(3, shelf));
    x.shelf(8, 5, 7, 1);
    due.is("of the last", x.free(8, 5), 7);
  }

  private void gapAnswers() {
    due.sentence("21", "Of the i-th GAP of a SHELF the first PLACE (what 0), how many PLACES (1); "
        + "of i NONE how many GAPS there are (0), PLACES in all of them (1). NONE.");
    RedMarks x = oneShelf(4, 9);
    due.row("first place", i -> x.gap(0, 0, i, 0), -1, 1, 5);
    due.row("places", i -> x.gap(0, 0, i, 1), -1, 3, 4);
    due.row("of NONE", what -> x.gap(0, 0, -1, what), -1, 2, 7);
    due.is("what -1 of NONE", x.gap(0, 0, -1, -1), -1);
    due.range("what", 0, 1, -1, what -> x.gap(0, 0, 0, what));
    RedMarks last = new RedMarks();
    due.newText(last, "bay letter;shelf star;place number");
    last.book(8, 4, 0, 1, 1);
    last.book(8, 7, 0, 1, 1);
    last.fact(0, 7, 5);
    last.keep(0, 0, 0);
    due.row("of NONE of the last shelf", what -> last.gap(8, 5, -1, what), -1, 1, 3);
    due.row("of the last shelf", what -> last.gap(8, 5, 0, what), -1, 1, 3);
    due.row("of NONE of the one ahead", what -> last.gap(8, 4, -1, what), -1, 0, 0);
    due.row("of NONE of the first", what -> last.gap(8, 0, -1, what), -1, 1, 6);
    due.range("bay", 0, 8, -1, bay -> x.gap(bay, 5, -1, 0));
    due.range("shelf", 0, 5, -1, shelf -> x.gap(8, shelf, -1, 1));
  }

  private void couldAnswers() {
    due.sentence("22", "How many sets of MISSING LINES could be in a GAP of a SHELF (all of its FREE) "
        + "with SLACK 0 .. 400 (line NONE), in how many of them a LINE is. NONE.");
    RedMarks x = oneShelf(1);
    x.fact(0, 9, 5);
    x.line(5, 0, 1, -1, -1);
    x.line(900, 7, 30, -1, -1);
    due.is("one is missing", x.could(0, 0, 400, -1), 2);
    due.range("slack", 0, 400, -1, slack -> x.could(0, 0, slack, -1));
    due.range("bay", 0, 8, -1, bay -> x.could(bay, 5, 400, -1));
    due.range("shelf", 0, 5, -1, shelf -> x.could(8, shelf, 400, -1));
    due.range("line", -1, 1, -1, line -> x.could(0, 0, 400, line));
    due.is("a line that is not missing", x.could(0, 0, 400, 0), 0);
    due.is("the missing one", x.could(0, 0, 400, 1), 1);
  }

  private void couldWithLines() {
    due.sentence("22", "in how many of them a LINE is.");
    RedMarks x = oneShelf();
    for (int thick = 1; thick <= 4; thick++) {
      x.line(900, 7, thick, -1, -1);
    }
    x.shelf(0, 0, 5, 40);
    // of 1, 2, 3, 4 at most 5 together: none, 1, 2, 3, 4, 1+2, 1+3, 1+4, 2+3
    due.is("sets", x.could(0, 0, 5, -1), 9);
    int[] with = {4, 3, 3, 2};
    due.row("with a line", line -> x.could(0, 0, 5, line), -1, with);
    due.is("just 5", x.could(0, 0, 0, -1), 2);
    int[] five = {1, 1, 1, 1};
    due.row("just 5 with a line", line -> x.could(0, 0, 0, line), -1, five);
    x.shelf(0, 0, 400, 40);
    for (int n = 4; n < 12; n++) {
      x.line(900, 7, 30, -1, -1);
    }
    due.is("all sets of twelve", x.could(0, 0, 400, -1), 4096);
    due.is("half of them", x.could(0, 0, 400, 11), 2048);
    due.is("the whole: 250", x.could(0, 0, 150, -1), 1);
    due.is("not so much", x.could(0, 0, 149, -1), 0);
    RedMarks most = oneShelf();
    for (int n = 0; n < 12; n++) {
      most.line(900, 7, 30, -1, -1);
    }
    most.shelf(0, 0, 360, 40);
    due.is("twelve of 30: the whole", most.could(0, 0, 0, -1), 1);
    due.is("twelve of 30: all sets", most.could(0, 0, 360, -1), 4096);
    most.shelf(0, 0, 359, 40);
    due.is("twelve of 30: all but the whole", most.could(0, 0, 359, -1), 4095);
    due.is("twelve of 30: less", most.could(0, 0, 28, -1), 0);
    due.is("twelve of 30: eleven", most.could(0, 0, 29, -1), 12);
  }

  /** Books 0 to 2 stand on the shelves of bays 0 to 2, each with its damp and star; 3 has no mark. */
  private RedMarks threeShelves(int[] damps, int[] stars) {
    RedMarks x = new RedMarks();
    due.newText(x, Edges.BY_MARK);
    for (int n = 0; n < 4; n++) {
      x.book(n < 3 ? n : -1, n < 3 ? 1 : -1, 0, 1, 1);
      x.fact(n, 8, damps[n]);
      x.fact(n, 7, stars[n]);
    }
    x.keep(0, 0, 0);
    return x;
  }

  private void nearestOnes() {
    due.sentence("IV", "NEAREST to a BOOK that does not STAND is the BOOK that STANDS on a SHELF with FREE for its THICK, "
        + "with the least difference of DAMP, of alike ones with the same STAR, then the lowest.");
    int[][][] cases = {
        {{0, 9, 4, 5}, {0, 0, 0, 0}, {2}}, {{4, 6, 4, 5}, {0, 0, 0, 0}, {0}}, {{6, 4, 4, 5}, {1, 1, 1, 0}, {0}},
        {{4, 6, 4, 5}, {1, 1, 0, 0}, {2}}, {{4, 6, 4, 5}, {1, 0, 0, 0}, {1}}, {{4, 6, 5, 5}, {0, 0, 1, 0}, {2}},
        {{9, 9, 9, 0}, {0, 9, 9, 9}, {1}}, {{0, 0, 0, 9}, {0, 0, 9, 9}, {2}}};
    for (int[][] each : cases) {
      RedMarks x = threeShelves(each[0], each[1]);
      int near = each[2][0];
      due.is("nearest", x.nearest(3, 0), near);
      due.is("its bay", x.nearest(3, 1), near);
      due.is("its shelf", x.nearest(3, 2), 0);
      due.is("difference", x.nearest(3, 3), Math.abs(each[0][near] - each[0][3]));
    }
  }

  private void nearestRoom() {
    due.sentence("IV", "is the BOOK that STANDS on a SHELF with FREE for its THICK, ");
    RedMarks x = threeShelves(new int[] {5, 4, 3, 5}, new int[4]);
    x.fact(3, 3, 30);
    x.shelf(0, 0, 31, 40);
    due.is("just room", x.nearest(3, 0), 0);
    x.shelf(0, 0, 30, 40);
    due.is("one too little", x.nearest(3, 0), 1);
    x.shelf(1, 0, 30, 40);
    due.is("there, too", x.nearest(3, 0), 2);
    x.shelf(2, 0, 30, 40);
    due.row("room nowhere", what -> x.nearest(3, what), -1, -1, -1, -1, -1);
    x.fact(3, 3, 29);
    due.is("less thick", x.nearest(3, 0), 0);
    x.fact(0, 3, 30);
    due.is("the other's thick is what stands there", x.nearest(3, 0), 1);
  }

  private void nearestAnswers() {
    due.sentence("30", "NEAREST to a BOOK in the KEPT HISTORY: the BOOK (what 0), its BAY (1), its SHELF (2), "
        + "the difference of DAMP (3). NONE (it STANDS, too).");
    RedMarks x = new RedMarks();
    due.newText(x, "bay 8;shelf 5;place number");
    x.book(0, 1, 0, 1, 1);
    x.book(0, 1, 0, 1, 1);
    x.fact(1, 8, 9);
    due.is("none kept", x.nearest(1, 0), -1);
    x.keep(0, 0, 0);
    due.row("nearest", what -> x.nearest(1, what), -1, 0, 8, 5, 9);
    due.is("what -1", x.nearest(1, -1), -1);
    due.row("it stands", what -> x.nearest(0, what), -1, -1, -1, -1, -1);
    due.range("book", 1, 1, -1, book -> x.nearest(book, 0));
    x.mark(0, -1, -1);
    due.is("then it stands itself", x.nearest(1, 0), -1);
    due.is("and is nearest to the other", x.nearest(0, 0), 1);
    x.mark(1, -1, -1);
    due.is("none stands", x.nearest(1, 0), -1);
  }

  private void closeOnes() {
    due.sentence("IV", "CLOSE are two next to each other on a SHELF with DAMP at most 1 apart.");
    int[][] damps = {{5, 5, 9}, {5, 6, 9}, {6, 5, 9}, {5, 7, 9}, {5, 7, 6}, {4, 5, 6}, {9, 0, 9}};
    int[] want = {1, 1, 1, 0, 1, 2, 0};
    for (int n = 0; n < damps.length; n++) {
      RedMarks x = oneShelf(1, 2, 99);
      for (int book = 0; book < 3; book++) {
        x.fact(book, 8, damps[n][book]);
      }
      due.is("damps " + n, x.close(0, 0), want[n]);
    }
    RedMarks x = oneShelf(99, 1, 50);
    int[] by = {5, 5, 9};
    for (int book = 0; book < 3; book++) {
      x.fact(book, 8, by[book]);
    }
    due.is("next to each other by places", x.close(0, 0), 0);
    x.fact(2, 8, 4);
    due.is("both pairs", x.close(0, 0), 2);
  }

  private void closeAnswers() {
    due.sentence("31", "How many pairs on a SHELF of the KEPT HISTORY are CLOSE; on all SHELVES (both NONE). NONE.");
    RedMarks x = new RedMarks();
    due.newText(x, "bay letter;shelf star;place number");
    for (int n = 0; n < 6; n++) {
      x.book(n < 2 ? 0 : 8, n + 1, 0, 1, 1);
      x.fact(n, 7, n < 2 ? 0 : 5);
    }
    due.is("none kept", x.close(0, 0), -1);
    x.keep(0, 0, 0);
    due.is("of two", x.close(0, 0), 1);
    due.is("of four", x.close(8, 5), 3);
    due.is("of all", x.close(-1, -1), 4);
    due.range("bay", 0, 8, -1, bay -> x.close(bay, 0));
    due.range("shelf", 0, 5, -1, shelf -> x.close(8, shelf));
    due.is("bay NONE alone", x.close(-1, 0), -1);
    due.is("shelf NONE alone", x.close(0, -1), -1);
    due.is("both -2", x.close(-2, -2), -1);
    RedMarks empty = oneShelf();
    due.is("of all, without books", empty.close(-1, -1), 0);
  }
}
