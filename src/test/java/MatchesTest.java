import java.util.Random;

/** BEST MATCHES of drawn books and lines, many of which are alike, against the Oracle. */
public final class MatchesTest {
  private static final Due due = new Due("MatchesTest");

  public static void main(String[] args) {
    Random random = new Random(7);
    for (int n = 0; n < 4000; n++) {
      compare("small " + n, random, 5, 4);
    }
    for (int n = 0; n < 150; n++) {
      compare("middle " + n, random, 10, 7);
    }
    for (int n = 0; n < 3; n++) {
      compare("large " + n, random, 16, 10);
    }
    due.finish();
  }

  private static void compare(String name, Random random, int mostBooks, int mostLines) {
    due.part(name);
    RedMarks x = new RedMarks();
    Oracle o = new Oracle();
    // twice: the second time more books and lines come to what has been matched
    for (int phase = 0; phase < 2; phase++) {
      draw(random, x, o, 1 + random.nextInt(mostBooks) / (phase + 1), random.nextInt(mostLines + 1));
      for (int what = 0; what < 3; what++) {
        due.is("match(" + what + ")", x.match(what), o.match(what));
      }
      for (int book = 0; book < x.count(0); book++) {
        due.is("matched(" + book + ", 0)", x.matched(book, 0), o.matched(book, 0));
        due.is("matched(" + book + ", 1)", x.matched(book, 1), o.matched(book, 1));
      }
    }
  }

  private static void draw(Random random, RedMarks x, Oracle o, int books, int lines) {
    int words = 1 + random.nextInt(4);
    int subjects = 1 + random.nextInt(3);
    int thicks = 1 + random.nextInt(12);
    int marks = random.nextInt(3);
    int numbers = 1 + random.nextInt(4);
    for (int n = 0; n < books + lines; n++) {
      boolean marked = random.nextInt(3) < marks;
      int letter = marked ? 0 : -1;
      int number = marked ? 1 + random.nextInt(numbers) : -1;
      int word = random.nextInt(words);
      int subject = random.nextInt(subjects);
      int thick = 1 + random.nextInt(thicks);
      if (n < books) {
        int book = x.book(letter, number, 0, thick, 1);
        due.is("book", o.book(letter, number, 0, thick, 1), book);
        due.is("word", x.fact(book, 9, word), o.fact(book, 9, word));
        due.is("subject", x.fact(book, 10, subject), o.fact(book, 10, subject));
      } else {
        due.is("line", x.line(word, subject, thick, letter, number), o.line(word, subject, thick, letter, number));
      }
    }
  }
}
