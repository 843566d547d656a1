/** Counts answers that are not the ones that are due, and puts texts on tapes. */
class Due {
  private final String name;
  private int asked = 0;
  private int wrong = 0;
  private String part = "";

  Due(String name) {
    this.name = name;
  }

  void part(String part) {
    this.part = part;
  }

  void is(String call, long got, long want) {
    asked++;
    if (got != want) {
      wrong++;
      System.out.println(part + ": " + call + " answered " + got + ", due is " + want);
    }
  }

  void holds(String what, boolean so) {
    is(what, so ? 1 : 0, 1);
  }

  void finish() {
    System.out.println(name + ": " + asked + " answers, " + wrong + " not as due");
    if (wrong != 0) {
      System.exit(1);
    }
  }

  /** Puts bytes (characters 0 to 255) on a tape that is empty. */
  static void tape(RedMarks x, String text) {
    StringBuilder padded = new StringBuilder(text);
    while (padded.length() % 20 != 0) {
      padded.append(' ');
    }
    for (int at = 0; at < padded.length(); at += 20) {
      x.feed(four(padded, at), four(padded, at + 4), four(padded, at + 8), four(padded, at + 12),
          four(padded, at + 16));
    }
    x.end(text.length());
  }

  static int text(RedMarks x, String text) {
    tape(x, text);
    return x.text();
  }

  /** The HOUSES of a WORLD's BOOKS, -1 for a BURNT one. */
  static int[] drawn(long s, int burn, int books) {
    int[] houses = new int[books];
    for (int n = 0; n < books; n++) {
      s = (s * 1103 + 12345) % 1000003;
      houses[n] = -1;
      if (s % 100 >= burn) {
        s = (s * 1103 + 12345) % 1000003;
        houses[n] = (int) (s % 12);
      }
    }
    return houses;
  }

  private static int four(CharSequence text, int at) {
    int word = 0;
    for (int i = 0; i < 4; i++) {
      word = word << 8 | text.charAt(at + i) & 255;
    }
    return word;
  }
}
