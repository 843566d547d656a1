import java.util.ArrayList;
import java.util.List;
import java.util.function.ToIntFunction;

/** Term I: what calls are refused by, in which order, and that a refused call changes nothing else. */
final class RefusedEdges {
  private static final ToIntFunction<RedMarks> NOTHING_AHEAD = x -> 0;

  private final Edges due;

  RefusedEdges(Edges due) {
    this.due = due;
  }

  void all() {
    numbersOfBooks();
    numbersOfShelves();
    numbersOfLines();
    numbersOfTheRest();
    noSuch();
    cannotBe();
    noRoom();
    textsAndRows();
    inOrder();
    callsThatAnswerNone();
  }

  /** A library in which each kind of thing stands; a full one has no room for more. */
  private static RedMarks library(boolean full) {
    RedMarks x = new RedMarks();
    int books = full ? 40 : 8;
    int texts = full ? 8 : 2;
    for (int n = 0; n < texts; n++) {
      Due.text(x, n % 2 == 0 ? Edges.BY_MARK + ";ours came" : "bay 3;place thick;false if came>9");
    }
    x.image(0);
    for (int n = 0; n < books; n++) {
      x.book(n % 3 - 1, n % 3 == 0 ? -1 : n + 1, n * 5, n % 30 + 1, n + 1);
    }
    int[] values = {1, 7, 4, 3, 77, 5, 2};
    for (int f = 5; f < 12; f++) {
      x.fact(0, f, values[f - 5]);
      x.fact(1, f, values[f - 5]);
      x.fact(books - 1, f, values[f - 5] / 2);
    }
    for (int n = 0; n < (full ? 12 : 4); n++) {
      x.line(n * 77 % 154, n % 8, n + 1, n % 2 - 1, n % 2 == 0 ? -1 : n + 1);
      x.list(n, n % 4);
    }
    x.bay(0, 2);
    x.bay(8, 1);
    x.shelf(0, 0, 99, 20);
    x.shelf(8, 5, 98, 21);
    x.binder(4, 3, 9);
    x.house(0, 30, 10, 7);
    x.house(11, 31, 9, 2);
    for (int n = 0; n < (full ? 9 : 3); n++) {
      x.stack(n);
    }
    x.keep(0, 1, 17);
    x.scatter(4711, 30);
    if (!full) {
      Due.text(x, "bay 1 2");
    }
    Due.tape(x, "sevenby");
    x.row();
    x.image(1);
    Due.tape(x, "false ");
    return x;
  }

  private static int[] answers(RedMarks x) {
    List<Integer> told = new ArrayList<>();
    int last = x.count(0) - 1;
    for (int what = 0; what <= 6; what++) {
      told.add(x.count(what));
    }
    told.add(x.fault());
    told.add(x.rebound());
    for (int f = 0; f < 12; f++) {
      told.add(x.of(0, f));
      told.add(x.of(1, f));
      told.add(x.of(last, f));
      told.add(x.agree(f, 0));
      told.add(x.agree(f, 1));
    }
    for (int n = 0; n < 9; n++) {
      told.add(x.on(n, 0, 0));
      told.add(x.free(n, 0));
      told.add(x.free(n, 5));
      told.add(x.how(n));
      told.add(x.beside(n - 1));
      told.add(x.went(n));
      told.add(x.bound(n));
      told.add(x.seat(n, 1, 3));
      told.add(x.seat(0, n, 3));
      told.add(x.wanting(n, 0, 0));
      told.add(x.runs(n));
      told.add(x.fights(1, n));
    }
    for (int what = 0; what < 5; what++) {
      told.add(x.best(what));
      told.add(x.match(what));
      told.add(x.left(what));
      told.add(x.fights(what, 0));
    }
    for (int house = 0; house < 12; house++) {
      told.add(x.expect(house));
    }
    told.add(x.next());
    told.add(x.could(8, 5, 400, -1));
    told.add(x.close(-1, -1));
    told.add(x.together(3, 0));
    told.add(x.nearest(0, 0));
    theRest(x, told, last);
    return told.stream().mapToInt(n -> n).toArray();
  }

  /** What is seen by changes: sides, lists, bytes of the tape, images. */
  private static void theRest(RedMarks x, List<Integer> told, int last) {
    for (int n = 0; n < 12; n++) {
      told.add(x.list(n, 0));
    }
    for (int bay = 0; bay < 9; bay++) {
      told.add(x.bay(bay, 0));
    }
    x.fact(last, 7, 0);
    told.add(x.binder(0, 0, 199));
    told.add(x.text());
    told.add(x.fault());
    for (int k = 1; k >= 0; k--) {
      told.add(x.back(k));
      told.add(x.count(0));
      told.add(x.count(2));
      told.add(x.count(3));
      told.add(x.count(4));
      told.add(x.count(5));
      told.add(x.of(0, 8));
    }
  }

  private void refused(String told, int why, boolean full, ToIntFunction<RedMarks> ahead, ToIntFunction<RedMarks> call) {
    RedMarks x = library(full);
    RedMarks other = library(full);
    ahead.applyAsInt(x);
    ahead.applyAsInt(other);
    int[] whats = {-1, 7, 8, 9, -1, 10, 11};
    int[] before = new int[5];
    for (int n = 0; n < 5; n++) {
      before[n] = x.count(7 + n);
    }
    due.is(told, call.applyAsInt(x), why);
    due.is(told + ": status", x.status(), why);
    for (int n = 0; n < 5; n++) {
      due.is(told + ": count(" + (7 + n) + ")", x.count(7 + n), before[n] + (whats[-why] == 7 + n ? 1 : 0));
    }
    if (told.startsWith("text")) {
      other.end(0);
    }
    int[] got = answers(x);
    int[] want = answers(other);
    for (int n = 0; n < want.length; n++) {
      due.is(told + ": what it leaves, answer " + n, got[n], want[n]);
    }
  }

  private void wrong(String told, ToIntFunction<RedMarks> call) {
    refused(told, -1, false, NOTHING_AHEAD, call);
  }

  private void numbersOfBooks() {
    due.sentence("I", "-1 a number that can't be; ");
    wrong("book: letter 9", x -> x.book(9, 1, 0, 1, 1));
    wrong("book: letter -2", x -> x.book(-2, 1, 0, 1, 1));
    wrong("book: number 0", x -> x.book(0, 0, 0, 1, 1));
    wrong("book: number 100", x -> x.book(0, 100, 0, 1, 1));
    wrong("book: letter NONE", x -> x.book(-1, 1, 0, 1, 1));
    wrong("book: number NONE", x -> x.book(0, -1, 0, 1, 1));
    wrong("book: came -1", x -> x.book(0, 1, -1, 1, 1));
    wrong("book: came 200", x -> x.book(0, 1, 200, 1, 1));
    wrong("book: thick 0", x -> x.book(0, 1, 0, 0, 1));
    wrong("book: thick 31", x -> x.book(0, 1, 0, 31, 1));
    wrong("book: tall 0", x -> x.book(0, 1, 0, 1, 0));
    wrong("book: tall 41", x -> x.book(0, 1, 0, 1, 41));
    int[] most = {8, 99, 199, 30, 40, 2, 40, 9, 9, 999, 7, 11};
    for (int f = 2; f < 12; f++) {
      int fact = f;
      wrong("fact: " + f + " above", x -> x.fact(0, fact, most[fact] + 1));
      wrong("fact: " + f + " below", x -> x.fact(0, fact, fact == 3 || fact == 4 ? 0 : -1));
    }
    wrong("fact: letter", x -> x.fact(0, 0, 5));
    wrong("fact: number", x -> x.fact(0, 1, 5));
    wrong("fact: 12", x -> x.fact(0, 12, 1));
    wrong("fact: -1", x -> x.fact(0, -1, 1));
    wrong("mark: letter 9", x -> x.mark(0, 9, 1));
    wrong("mark: letter NONE", x -> x.mark(0, -1, 1));
    wrong("mark: number NONE", x -> x.mark(0, 1, -1));
    wrong("mark: number 0", x -> x.mark(0, 1, 0));
    wrong("mark: number 100", x -> x.mark(0, 1, 100));
  }

  private void numbersOfShelves() {
    due.sentence("I", "-1 a number that can't be; ");
    wrong("bay: -1", x -> x.bay(-1, 1));
    wrong("bay: 9", x -> x.bay(9, 1));
    wrong("bay: side -1", x -> x.bay(0, -1));
    wrong("bay: side 3", x -> x.bay(0, 3));
    wrong("shelf: bay -1", x -> x.shelf(-1, 5, 50, 30));
    wrong("shelf: bay 9", x -> x.shelf(9, 0, 50, 30));
    wrong("shelf: -1", x -> x.shelf(1, -1, 50, 30));
    wrong("shelf: 6", x -> x.shelf(0, 6, 50, 30));
    wrong("shelf: wide 0", x -> x.shelf(0, 0, 0, 30));
    wrong("shelf: wide 401", x -> x.shelf(0, 0, 401, 30));
    wrong("shelf: high 0", x -> x.shelf(0, 0, 50, 0));
    wrong("shelf: high 61", x -> x.shelf(0, 0, 50, 61));
    wrong("keep: year -1", x -> x.keep(1, 1, -1));
    wrong("keep: year 201", x -> x.keep(1, 1, 201));
    wrong("binder: star -1", x -> x.binder(-1, 5, 6));
    wrong("binder: star 10", x -> x.binder(10, 5, 6));
    wrong("binder: from -1", x -> x.binder(4, -1, 6));
    wrong("binder: to 200", x -> x.binder(4, 5, 200));
    wrong("binder: to ahead of from", x -> x.binder(4, 7, 6));
  }

  private void numbersOfLines() {
    due.sentence("I", "-1 a number that can't be; ");
    wrong("line: word -1", x -> x.line(-1, 0, 1, 0, 1));
    wrong("line: word 1000", x -> x.line(1000, 0, 1, 0, 1));
    wrong("line: subject -1", x -> x.line(0, -1, 1, 0, 1));
    wrong("line: subject 8", x -> x.line(0, 8, 1, 0, 1));
    wrong("line: thick 0", x -> x.line(0, 0, 0, 0, 1));
    wrong("line: thick 31", x -> x.line(0, 0, 31, 0, 1));
    wrong("line: letter 9", x -> x.line(0, 0, 1, 9, 1));
    wrong("line: number 100", x -> x.line(0, 0, 1, 0, 100));
    wrong("line: number 0", x -> x.line(0, 0, 1, 0, 0));
    wrong("line: letter NONE", x -> x.line(0, 0, 1, -1, 1));
    wrong("line: number NONE", x -> x.line(0, 0, 1, 0, -1));
    wrong("list: -1", x -> x.list(1, -1));
    wrong("list: 4", x -> x.list(1, 4));
  }

  private void numbersOfTheRest() {
    due.sentence("I", "-1 a number that can't be; ");
    wrong("house: -1", x -> x.house(-1, 9, 8, 7));
    wrong("house: 12", x -> x.house(12, 9, 8, 7));
    wrong("house: all -1", x -> x.house(0, -1, 0, 7));
    wrong("house: all 5001", x -> x.house(0, 5001, 8, 7));
    wrong("house: looked -1", x -> x.house(0, 9, -1, 7));
    wrong("house: looked 10 of 9", x -> x.house(0, 9, 10, 7));
    wrong("house: cost 0", x -> x.house(0, 9, 8, 0));
    wrong("house: cost 101", x -> x.house(0, 9, 8, 101));
    wrong("scatter: seed -1", x -> x.scatter(-1, 50));
    wrong("scatter: seed 1000001", x -> x.scatter(1000001, 50));
    wrong("scatter: burn -1", x -> x.scatter(5, -1));
    wrong("scatter: burn 101", x -> x.scatter(5, 101));
    wrong("image: -1", x -> x.image(-1));
    wrong("image: 2", x -> x.image(2));
    wrong("back: -1", x -> x.back(-1));
    wrong("back: 2", x -> x.back(2));
  }

  private void noSuch() {
    due.sentence("I", "-2 there is no such BOOK, TEXT, IMAGE; ");
    for (int n : new int[] {-1, 8, 39, 40, Edges.SMALL, Edges.BIG}) {
      refused("fact: book " + n, -2, false, NOTHING_AHEAD, x -> x.fact(n, 2, 5));
      refused("mark: book " + n, -2, false, NOTHING_AHEAD, x -> x.mark(n, 0, 1));
      refused("stack: book " + n, -2, false, NOTHING_AHEAD, x -> x.stack(n));
      refused("list: line " + n, -2, false, NOTHING_AHEAD, x -> x.list(n, 2));
      refused("keep: first " + n, -2, false, NOTHING_AHEAD, x -> x.keep(n, 1, 200));
      refused("keep: second " + n, -2, false, NOTHING_AHEAD, x -> x.keep(1, n, 0));
    }
    refused("stack: book 40 of 40", -2, true, NOTHING_AHEAD, x -> x.stack(40));
    refused("keep: text 8 of 8", -2, true, NOTHING_AHEAD, x -> x.keep(8, 0, 0));
    refused("list: line 12 of 12", -2, true, NOTHING_AHEAD, x -> x.list(12, 0));
    RedMarks x = new RedMarks();
    x.book(0, 1, 0, 1, 1);
    x.image(0);
    x.book(0, 2, 0, 1, 1);
    due.is("an image that was not kept", x.back(1), -2);
    due.is("status", x.status(), -2);
    due.is("books", x.count(0), 2);
    due.is("the other one is there", x.back(0), 0);
    due.is("books then", x.count(0), 1);
  }

  private void cannotBe() {
    due.sentence("I", "-3 it can't be by what stands; ");
    refused("stack: a book that is in it", -3, false, NOTHING_AHEAD, x -> x.stack(0));
    refused("stack: the last that is in it", -3, false, NOTHING_AHEAD, x -> x.stack(2));
    refused("stack: one that is in a full one", -3, true, NOTHING_AHEAD, x -> x.stack(8));
  }

  private void noRoom() {
    due.sentence("I", "-5 no room; ");
    refused("book: a 41st", -5, true, NOTHING_AHEAD, x -> x.book(0, 1, 0, 1, 1));
    refused("book: a 41st without a mark", -5, true, NOTHING_AHEAD, x -> x.book(-1, -1, 0, 1, 1));
    refused("line: a 13th", -5, true, NOTHING_AHEAD, x -> x.line(0, 0, 1, -1, -1));
    refused("stack: a 10th", -5, true, NOTHING_AHEAD, x -> x.stack(9));
    refused("text: a 9th", -5, true, NOTHING_AHEAD, x -> x.text());
    refused("text: a 9th of nothing", -5, true, x -> x.end(0), x -> x.text());
  }

  private void textsAndRows() {
    due.sentence("I", "-6 a TEXT, a ROW that can't be.");
    refused("row: of nothing", -6, false, x -> x.end(0), x -> x.row());
    refused("row: of nothing, full", -6, true, x -> x.end(0), x -> x.row());
    refused("text: one that can't be", -6, false, x -> x.end(0), x -> Due.text(x, "bay 3 4"));
    refused("text: another, with its fault at the end", -6, false, x -> x.end(0), x -> Due.text(x, "bay 3+"));
  }

  private void inOrder() {
    due.sentence("I", "REFUSED by: ");
    due.sentence("I", "The first of these in that order.");
    RedMarks full = library(true);
    RedMarks x = library(false);
    due.is("book: -1 ahead of -5", full.book(9, 1, 0, 1, 1), -1);
    due.is("book: half a mark ahead of -5", full.book(0, -1, 0, 1, 1), -1);
    due.is("fact: -1 of the fact ahead of -2", x.fact(8, 1, 1), -1);
    due.is("fact: -1 of the value ahead of -2", x.fact(8, 5, 3), -1);
    due.is("mark: -1 ahead of -2", x.mark(8, 9, 1), -1);
    due.is("mark: half ahead of -2", x.mark(-1, 0, -1), -1);
    due.is("keep: -1 ahead of -2, first", x.keep(2, 0, 201), -1);
    due.is("keep: -1 ahead of -2, second", x.keep(0, 2, -1), -1);
    due.is("line: -1 ahead of -5", full.line(1000, 0, 1, 0, 1), -1);
    due.is("list: -1 ahead of -2", x.list(4, 4), -1);
    due.is("stack: -2 ahead of -5", full.stack(40), -2);
    due.is("stack: -3 ahead of -5", full.stack(0), -3);
    due.is("back: -1, which image could not be kept", x.back(2), -1);
    due.is("text: -5 ahead of -6", Due.text(full, "bay"), -5);
    due.is("text: -5 ahead of -6 of nothing", full.text(), -5);
  }

  private void callsThatAnswerNone() {
    due.sentence("51", "how many calls were REFUSED by -1");
    RedMarks x = library(false);
    int before = x.count(7);
    int status = x.status();
    int[] none = {x.end(-1), x.end(401), x.seat(9, 9, 9), x.stand(9, 9, 9), x.best(9), x.how(99), x.on(9, 9, 9),
        x.gap(9, 9, 9, 9), x.could(9, 9, 999, 99), x.fights(9, 9), x.wanting(9, 9, 9), x.nearest(99, 9), x.close(9, 9),
        x.match(9), x.matched(99, 9), x.ours(9, 99, 99), x.untrue(9, 9, 9), x.twice(9, 9), x.beside(99), x.expect(99),
        x.left(9), x.grew(999, 999, 99), x.went(99), x.together(9, 9), x.count(99)};
    for (int n = 0; n < none.length; n++) {
      due.is("question " + n, none[n], -1);
    }
    for (int answer : new int[] {x.of(99, 99), x.free(9, 9), x.runs(99), x.bound(99), x.agree(99, 99)}) {
      due.is("a question that answers NOTHING", answer, Edges.NOTHING);
    }
    due.is("none of them is refused", x.count(7), before);
    due.is("nor a status", x.status(), status);
  }
}
