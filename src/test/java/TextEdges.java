/** Term II and promises 8, 9, 12, 13, 35 and 36: the tape, texts, faults, what texts tell. */
final class TextEdges {
  private static final String THOUSAND_CUBED = "1000*1000*1000";

  private final Edges due;

  TextEdges(Edges due) {
    this.due = due;
  }

  void all() {
    feeds();
    feedsFull();
    ends();
    texts();
    textsFull();
    faultAnswers();
    fourHundred();
    eightTexts();
    tokens();
    otherSigns();
    twelveClauses();
    heads();
    ifs();
    tests();
    boths();
    plains();
    sums();
    parts();
    numbers();
    fiftyParts();
    eightBrackets();
    firstThatCannotGoOn();
    all2();
  }

  private void all2() {
    askedOfBooks();
    beyond();
    beyondInBetween();
    dividedByZero();
    brokenTests();
    cutTowardsZero();
    holding();
    lazy();
    lastThatHolds();
    toldNothing();
    oursOfBooks();
    oursThroughBoth();
    oursWithout();
    falseOfBooks();
    falseAnswers();
  }

  private void feeds() {
    due.sentence("8", "Twenty bytes come behind the TAPE, four of each number, the highest first: how many it has.");
    RedMarks x = new RedMarks();
    due.is("first", x.feed(0x08630001, 0x01FF0A00, 0x28280001, 0x00010100, 0x63C71E28), 20);
    due.is("four books, of which the second can't be", x.row(), 3);
    due.is("rebound", x.rebound(), 1);
    due.is("letter of the first", x.of(0, 0), 8);
    due.is("number of the first", x.of(0, 1), 99);
    due.is("came of the last", x.of(2, 2), 199);
    due.is("tall of the last", x.of(2, 4), 40);
    due.is("behind a tape of 7", feedBehind(7), 27);
    RedMarks y = new RedMarks();
    y.feed(0x08630001, 0x01000000, 0, 0, 0);
    y.end(5);
    y.feed(0x0001C71E, 0x28FFFFFF, 0, 0, 0);
    y.end(10);
    due.is("bytes of two feeds", y.row(), 2);
    due.is("came of the second", y.of(1, 2), 199);
    due.is("tall of the second", y.of(1, 4), 40);
    RedMarks z = new RedMarks();
    z.feed(-1, Edges.SMALL, Edges.BIG, 0, 1);
    z.end(4);
    z.feed(0, 0, 0, 0, 0);
    due.is("behind four bytes of -1", z.count(6), 24);
  }

  private static int feedBehind(int n) {
    RedMarks x = new RedMarks();
    x.feed(0, 0, 0, 0, 0);
    x.end(n);
    return x.feed(0, 0, 0, 0, 0);
  }

  private void feedsFull() {
    due.sentence("8", "NONE, if there would be more than 400.");
    RedMarks x = new RedMarks();
    for (int n = 20; n <= 400; n += 20) {
      due.is("feed", x.feed(0, 0, 0, 0, 0), n);
    }
    due.is("at 400", x.feed(1, 1, 1, 1, 1), -1);
    due.is("it has 400 still", x.count(6), 400);
    x.end(381);
    due.is("at 381", x.feed(1, 1, 1, 1, 1), -1);
    due.is("it has 381 still", x.count(6), 381);
    x.end(380);
    due.is("at 380", x.feed(1, 1, 1, 1, 1), 400);
    due.is("none is refused", x.count(7), 0);
    due.is("status", x.status(), 0);
  }

  private void ends() {
    due.sentence("9", "The TAPE has its first n bytes alone: n. NONE, if it has not so many, or n is below 0.");
    RedMarks x = new RedMarks();
    due.range("end of an empty one", 0, 0, -1, x::end);
    x.feed(0, 0, 0, 0, 0);
    due.is("21 of 20", x.end(21), -1);
    due.is("as it was", x.count(6), 20);
    due.is("20 of 20", x.end(20), 20);
    due.is("19", x.end(19), 19);
    due.is("20 of 19", x.end(20), -1);
    due.is("-1", x.end(-1), -1);
    due.is("as it was then", x.count(6), 19);
    due.is("0", x.end(0), 0);
    due.is("1 of 0", x.end(1), -1);
    Due.tape(x, "false 1");
    due.is("the first five", x.end(5), 5);
    due.is("are a text", x.text(), 0);
  }

  private void texts() {
    due.sentence("12", "The TAPE, which is empty then, becomes a TEXT: its number.");
    RedMarks x = new RedMarks();
    due.is("first", Due.text(x, "false"), 0);
    due.is("empty then", x.count(6), 0);
    due.is("second", Due.text(x, "false"), 1);
    due.is("empty then", x.count(6), 0);
    due.sentence("12", "-6 (blanks alone: FAULT at the end).");
    due.is("wrong", Due.text(x, "false!"), -6);
    due.is("empty then, too", x.count(6), 0);
    due.is("none", x.text(), -6);
    due.is("fault of none", x.fault(), 0);
    for (int n : new int[] {1, 20, 399, 400}) {
      due.is(n + " blanks", Due.text(x, " ".repeat(n)), -6);
      due.is("fault of " + n + " blanks", x.fault(), n);
    }
    due.is("third, behind wrong ones", Due.text(x, "false"), 2);
    due.is("texts", x.count(2), 3);
  }

  private void textsFull() {
    due.sentence("12", "-5 (ahead of reading it; the TAPE is empty then, too); ");
    RedMarks x = new RedMarks();
    for (int n = 0; n < 7; n++) {
      due.newText(x, "false");
    }
    due.is("wrong", Due.text(x, "false 1"), -6);
    due.is("the eighth", Due.text(x, "false"), 7);
    due.is("a good ninth", Due.text(x, "false"), -5);
    due.is("the tape", x.count(6), 0);
    due.is("a wrong ninth", Due.text(x, "false 1"), -5);
    due.is("the tape", x.count(6), 0);
    due.is("not read", x.fault(), -1);
    due.is("a ninth of nothing", x.text(), -5);
    due.is("texts", x.count(2), 8);
    due.is("refused by -5", x.count(10), 3);
    due.is("refused by -6", x.count(11), 1);
  }

  private void faultAnswers() {
    due.sentence("13", "FAULT of the latest text() that read a TEXT: its place; NONE without.");
    RedMarks x = new RedMarks();
    due.is("ahead of any", x.fault(), -1);
    Due.text(x, "bay 1 2");
    due.is("at a place", x.fault(), 6);
    Due.tape(x, "x");
    due.is("a tape does not matter", x.fault(), 6);
    x.row();
    due.is("a row does not matter", x.fault(), 6);
    Due.text(x, "bay 1");
    due.is("without", x.fault(), -1);
    for (int n = 1; n < 7; n++) {
      due.newText(x, "bay 1");
    }
    Due.text(x, "1");
    due.is("at the first place", x.fault(), 0);
    x.image(0);
    due.newText(x, "bay 1");
    x.back(0);
    due.is("images do not keep it", x.fault(), -1);
    Due.text(x, "11 1");
    due.newText(x, "bay 1");
    Due.text(x, "bay 1 2");
    due.is("one that was not read", x.fault(), -1);
    due.is("it was refused", x.status(), -5);
  }

  /** A text with a fault at a place, or (-1) without. */
  private void fault(String text, int place) {
    RedMarks x = new RedMarks();
    due.is("text \"" + text + "\"", Due.text(x, text), place < 0 ? 0 : -6);
    due.is("fault \"" + text + "\"", x.fault(), place);
    due.is("texts \"" + text + "\"", x.count(2), place < 0 ? 1 : 0);
  }

  /** What "ours" tells of a book with letter 3, number 7, came 50, thick 6, tall 9, else 0. */
  private void tells(String text, int want) {
    RedMarks x = new RedMarks();
    x.book(3, 7, 50, 6, 9);
    due.is("text \"" + text + "\"", Due.text(x, text), 0);
    due.is("ours by \"" + text + "\"", x.ours(0, 0, -1), want);
  }

  private void fourHundred() {
    due.sentence("II", "on a TAPE of at most 400 bytes.");
    RedMarks x = new RedMarks();
    x.book(0, 1, 0, 1, 1);
    String whole = " ".repeat(391) + "ours 1+12";
    due.is("400 bytes", Due.text(x, whole), 0);
    due.is("read to the last", x.ours(0, 0, -1), 13);
    due.is("400 bytes, wrong at the last", Due.text(x, " ".repeat(393) + "ours 1?"), -6);
    due.is("fault at the last", x.fault(), 399);
    due.is("400 bytes, wrong at the end", Due.text(x, " ".repeat(392) + "ours 1+ "), -6);
    due.is("fault at the end", x.fault(), 400);
    due.is("one byte", Due.text(x, "f"), -6);
    due.is("fault at the first", x.fault(), 0);
  }

  private void eightTexts() {
    due.sentence("II", "TEXTS, 8 at most, ");
    RedMarks x = new RedMarks();
    x.book(0, 1, 0, 1, 1);
    for (int n = 0; n < 8; n++) {
      due.is("ours of none", x.ours(n, 0, -1), -1);
      due.is("text", Due.text(x, "ours " + (n + 1)), n);
    }
    due.is("ninth", Due.text(x, "ours 9"), -5);
    for (int n = 0; n < 8; n++) {
      due.is("ours of text " + n, x.ours(n, 0, -1), n + 1);
    }
    due.range("ours", 0, 7, -1, text -> x.ours(text, 0, -1));
    due.range("untrue", 0, 7, -1, text -> x.untrue(text, 0, 0));
  }

  private void tokens() {
    due.sentence("II", "TOKENS: longest rows of letters a .. z, of digits, single other bytes, any blanks (32) between.");
    tells("ours7", 7);
    tells("ours 7if 1=1", 7);
    tells("ours7if1=1", 7);
    tells("  ours   7   if   1   =   1  ", 7);
    tells("ours 10", 10);
    fault("ours 1 0", 7);
    fault("ours 1=1", 6);
    fault("oursletter", 0);
    fault("ours letter7", 11);
    fault("ours 7letter", 6);
    fault("o urs 7", 0);
    fault("ours 7 i f 1=1", 7);
    fault("ours 7 if1=1 and2=2", -1);
    fault("ours 7 if not1=1", -1);
    fault("ours 7 if notnot 1=1", 10);
    fault("ours 7 if 1=1and2=2or3=3", -1);
    fault("ours 7 if 1=1andnot 2=2", 13);
    fault("ours [letter]", -1);
    fault("false;false", -1);
  }

  /** The bytes beside a .. z, 0 .. 9 and the blank are single others, which no text has. */
  private void otherSigns() {
    due.sentence("II", "longest rows of letters a .. z, of digits, single other bytes, any blanks (32) between.");
    for (char sign : new char[] {0, 9, 10, 31, 33, 96, 123, 128, 160, 255, 'A', 'B', 'Z', ':', '_', '.', ',', '-'}) {
      fault("bay " + sign + "1", 4);
      fault(sign + "bay 1", 0);
      if (sign != '-') {
        fault("bay 1" + sign, 5);
        fault("bay" + sign + "1", 3);
        fault("bay letter" + sign, 10);
      }
    }
    fault("bay a", 4);
    fault("bay z", 4);
    fault("bay hz", 4);
    fault("bay 0", -1);
    fault("bay 9", -1);
    fault("bay 4/2", -1);
    fault("baya 1", 0);
    fault("bayz 1", 0);
    fault("abay 1", 0);
    fault("zbay 1", 0);
    fault("BAY 1", 0);
    fault("bay Letter", 4);
  }

  private void twelveClauses() {
    due.sentence("II", "CLAUSE {\";\" CLAUSE}, 12 at most (FAULT at the 13th's first TOKEN).");
    fault("false", -1);
    fault("false;".repeat(11) + "false", -1);
    fault("false;".repeat(12) + "false", 72);
    fault("false;".repeat(12) + "   false", 75);
    fault("false;".repeat(12), 72);
    fault("false;".repeat(12) + "   ", 75);
    fault("false;".repeat(12) + "?", 72);
    fault("false;".repeat(13) + "?", 72);
    fault("false;".repeat(11) + "falsely", 66);
    fault("false;".repeat(11), 66);
    fault(";false", 0);
    fault("false;;false", 6);
    fault("false;", 6);
    fault("false,false", 5);
    fault("false false", 6);
    tells("ours 1;".repeat(11) + "ours 2", 2);
    tells("ours 2;" + "false;".repeat(10) + "ours letter", 3);
    tells("ours 2;" + "false;".repeat(11).substring(0, 65), 2);
  }

  /** Each word with one of its letters changed is another word, which can't go on there. */
  private void misspelt(String ahead, String[] words, String behind, int place) {
    for (String word : words) {
      fault(ahead + word + behind, -1);
      for (int at = 0; at < word.length(); at++) {
        fault(ahead + word.substring(0, at) + "q" + word.substring(at + 1) + behind, place);
      }
    }
  }

  private void heads() {
    due.sentence("II", "CLAUSE: HEAD [\"if\" TEST]. HEAD: \"bay\" SUM | \"shelf\" SUM | \"place\" SUM | \"ours\" SUM | \"false\".");
    for (String head : new String[] {"bay", "shelf", "place", "ours"}) {
      int n = head.length();
      fault(head + " 1", -1);
      fault(head, n);
      fault(head + " ", n + 1);
      fault(head + " if 1=1", n + 1);
      fault(head + ";false", n);
      fault(head + " 1 1", n + 3);
      fault(head + "s 1", 0);
      fault(head.substring(1) + " 1", 0);
      fault(head.substring(0, n - 1) + " 1", 0);
      fault(head + " " + head, n + 1);
    }
    fault("false", -1);
    fault("false if 1=1", -1);
    fault("false 1", 6);
    fault("false letter", 6);
    fault("fals", 0);
    fault("falses", 0);
    misspelt("", new String[] {"bay", "shelf", "place", "ours"}, " 1", 0);
    misspelt("", new String[] {"false"}, "", 0);
    fault("if 1=1", 0);
    fault("1", 0);
    fault("letter", 0);
    fault("[1]", 0);
  }

  private void ifs() {
    due.sentence("II", "CLAUSE: HEAD [\"if\" TEST].");
    fault("false if", 8);
    fault("false if ;", 9);
    fault("false if 1=1 if 1=1", 13);
    fault("false if 1=1 1", 13);
    fault("false if 1=1;bay 1 if 2=2", -1);
    fault("false when 1=1", 6);
    fault("false iff 1=1", 6);
    fault("false i", 6);
    misspelt("false ", new String[] {"if"}, " 1=1", 6);
    fault("bay 1 if", 8);
    fault("bay 1 not 1=1", 6);
    fault("bay 1 (1=1)", 6);
  }

  private void tests() {
    due.sentence("II", "TEST: BOTH {\"or\" BOTH}.");
    fault("false if 1=1 or 2=2 or 3=3", -1);
    fault("false if 1=1 or", 15);
    fault("false if 1=1 or or 2=2", 16);
    fault("false if or 2=2", 9);
    fault("false if 1=1 or 2", 17);
    fault("false if 1=1 ors 2=2", 13);
    misspelt("false if 1=1 ", new String[] {"or"}, " 2=2", 13);
    tells("ours 5 if 1=2 or 2=3", 0);
    tells("ours 5 if 1=2 or 2=3 or 4=4", 5);
    tells("ours 5 if 1=1 or 2=3 or 4=5", 5);
    tells("ours 5 if 1=2 or 3=3 and 4=5", 0);
    tells("ours 5 if 1=1 or 3=3 and 4=5", 5);
    tells("ours 5 if 3=3 and 4=5 or 1=1", 5);
  }

  private void boths() {
    due.sentence("II", "BOTH: PLAIN {\"and\" PLAIN}.");
    fault("false if 1=1 and 2=2 and 3=3", -1);
    fault("false if 1=1 and", 16);
    fault("false if 1=1 and and 2=2", 17);
    fault("false if and 2=2", 9);
    fault("false if 1=1 and or 2=2", 17);
    fault("false if 1=1 an 2=2", 13);
    misspelt("false if 1=1 ", new String[] {"and"}, " 2=2", 13);
    tells("ours 5 if 1=1 and 2=2", 5);
    tells("ours 5 if 1=1 and 2=2 and 3=4", 0);
    tells("ours 5 if 1=2 and 2=2 and 3=3", 0);
    tells("ours 5 if 1=1 and 2=2 and 3=3", 5);
  }

  private void plains() {
    due.sentence("II", "PLAIN: \"not\" PLAIN | \"(\" TEST \")\" | SUM (\"<\" | \">\" | \"=\") SUM.");
    fault("false if not", 12);
    fault("false if not 1", 14);
    fault("false if not not not 1=1", -1);
    fault("false if not (1=1)", -1);
    misspelt("false if ", new String[] {"not"}, " 1=1", 9);
    fault("false if not and 1=1", 13);
    fault("false if (1=1)", -1);
    fault("false if ()", 10);
    fault("false if (1=1", 13);
    fault("false if (1=1]", 13);
    fault("false if (1=1) 1", 15);
    fault("false if (1)", 11);
    fault("false if (1)=1", 11);
    fault("false if 1=(1)", 11);
    fault("false if 1", 10);
    fault("false if 1<", 11);
    fault("false if 1<=1", 11);
    fault("false if 1=1=1", 12);
    fault("false if [1=1]", 11);
    tells("ours 5 if 6<7", 5);
    tells("ours 5 if 7<7", 0);
    tells("ours 5 if 7>6", 5);
    tells("ours 5 if 7>7", 0);
    tells("ours 5 if 7=7", 5);
    tells("ours 5 if 7=6", 0);
    tells("ours 5 if 6=7", 0);
    tells("ours 5 if not 7=6", 5);
    tells("ours 5 if not not 7=7", 5);
    tells("ours 5 if not not not 7=7", 0);
    tells("ours 5 if not 7=6 and 7=6", 0);
    tells("ours 5 if not (7=6 and 7=6)", 5);
    tells("ours 5 if not (not 7=7)", 5);
    tells("ours 5 if not (not 7=6)", 0);
    tells("ours 5 if not (not (not 7=6))", 5);
    tells("ours 5 if not 7=7 or not 7=6", 5);
    tells("ours 5 if " + "not ".repeat(96) + "1=1", 5);
    tells("ours 5 if " + "not ".repeat(95) + "1=2", 5);
  }

  private void sums() {
    due.sentence("II", "SUM: TERM {(\"+\" | \"-\") TERM}. TERM: PART {(\"*\" | \"/\") PART}.");
    tells("ours 10-3-4", 3);
    tells("ours 10-[3-4]", 11);
    tells("ours 10-3+4", 11);
    tells("ours 2+3*4", 14);
    tells("ours 2*3+4", 10);
    tells("ours 20-2*3-4", 10);
    tells("ours 100/5/2", 10);
    tells("ours 100/5*2", 40);
    tells("ours 100*2/5", 40);
    tells("ours 7/2*2", 6);
    tells("ours 20/[5*2]", 2);
    fault("ours 1+", 7);
    fault("ours 1-", 7);
    fault("ours 1*", 7);
    fault("ours 1/", 7);
    fault("ours +1", 5);
    fault("ours -1", 5);
    fault("ours 1--1", 7);
    fault("ours 1*/1", 7);
    fault("ours 1+-1", 7);
    fault("ours 1%1", 6);
  }

  private void parts() {
    due.sentence("II", "\"[\" SUM \"]\" | \"letter\" | \"number\" | \"came\" | \"thick\" | \"tall\" | \"hole\" | "
        + "\"height\" | \"star\" | \"damp\" | \"word\" | \"subject\" | \"house\".");
    String[] words = {"letter", "number", "came", "thick", "tall", "hole", "height", "star", "damp", "word",
        "subject", "house"};
    int[] most = {8, 99, 199, 30, 40, 2, 40, 9, 9, 999, 7, 11};
    for (int f = 0; f < 12; f++) {
      RedMarks x = new RedMarks();
      x.book(8, 99, 199, 30, 40);
      for (int other = 5; other < 12; other++) {
        x.fact(0, other, most[other]);
      }
      due.newText(x, "ours 1+" + words[f] + "-1");
      due.is(words[f], x.ours(0, 0, -1), most[f]);
      fault("ours " + words[f] + "s", 5);
      fault("ours " + words[f].substring(0, words[f].length() - 1), 5);
      fault(words[f], 0);
    }
    misspelt("ours ", words, "", 5);
    fault("ours []", 6);
    fault("ours [1", 7);
    fault("ours [1)", 7);
    fault("ours 1]", 6);
    fault("ours (1)", 5);
    fault("ours [1]]", 8);
    fault("ours [1][1]", 8);
    fault("ours if", 5);
    fault("ours not", 5);
    tells("ours [[[letter]]]", 3);
  }

  private void numbers() {
    due.sentence("II", "PART: NUMBER (to 1,000) | ");
    tells("ours 0", 0);
    tells("ours 1000", 1000);
    tells("ours 999+1", 1000);
    tells("ours 0001000", 1000);
    tells("ours 000000000000000000000000000000000000012", 12);
    fault("ours 1001", 5);
    fault("ours 1,000", 6);
    fault("ours 9999", 5);
    fault("ours 2147483648", 5);
    fault("ours 4294967296", 5);
    fault("ours 18446744073709551617", 5);
    fault("ours 10000000000000000000000000000000000000000000000000001", 5);
    fault("ours 1+1001", 7);
    fault("ours 1 if 1=1001", 12);
    fault("ours [1001]", 6);
  }

  private void fiftyParts() {
    due.sentence("II", "50 PARTS that are NUMBERS and words (FAULT at the 51st), ");
    String numbers = "1+".repeat(49);
    fault("ours " + numbers + "1", -1);
    fault("ours " + numbers + "1+1", 105);
    fault("ours " + numbers + "1+ letter", 106);
    fault("ours " + numbers + "1+1001", 105);
    fault("ours " + numbers + "1+", 105);
    fault("ours " + numbers + "1+[1]", 106);
    fault("ours " + numbers + "1+]", 105);
    fault("ours " + numbers + "1 if 1=1", 108);
    fault("ours " + "[1]+".repeat(49) + "[1]", -1);
    fault("ours " + "star+".repeat(49) + "star", -1);
    fault("ours " + "star+".repeat(50) + "star", 255);
    fault("ours " + "1+".repeat(47) + "1 if 1=star", -1);
    fault("ours " + "1+".repeat(48) + "1 if 1=star", 108);
    fault("ours " + "1+".repeat(24) + "1;ours " + "1+".repeat(24) + "1", -1);
    fault("ours " + "1+".repeat(24) + "1;ours " + "1+".repeat(25) + "1", 110);
    tells("ours " + numbers + "1", 50);
    RedMarks x = new RedMarks();
    x.book(0, 1, 0, 1, 1);
    for (int n = 0; n < 8; n++) {
      due.is("one too many", Due.text(x, "ours " + numbers + "1+1"), -6);
      due.is("fault of one too many", x.fault(), 105);
      due.is("each text has fifty of its own", Due.text(x, "ours " + n + "+" + numbers.substring(2) + "1"), n);
    }
    for (int n = 0; n < 8; n++) {
      due.is("ours of text " + n, x.ours(n, 0, -1), 49 + n);
    }
  }

  private void eightBrackets() {
    due.sentence("II", "8 brackets of both kinds within one another (FAULT at the 9th) at most.");
    fault("ours " + "[".repeat(8) + "1" + "]".repeat(8), -1);
    fault("ours " + "[".repeat(9) + "1" + "]".repeat(9), 13);
    fault("ours " + "[ ".repeat(9) + "1", 21);
    fault("ours 1+" + "[".repeat(8) + "(", 15);
    fault("false if " + "(".repeat(8) + "1=1" + ")".repeat(8), -1);
    fault("false if " + "(".repeat(9) + "1=1" + ")".repeat(9), 17);
    fault("false if ((((((([1]=1)))))))", -1);
    fault("false if (((((((([1]=1))))))))", 17);
    fault("false if (((([[[[1]]]]=1))))", -1);
    fault("false if (((([[[[[1]]]]]=1))))", 17);
    fault("false if ((((1=[[[[1]]]]))))", -1);
    fault("false if ((((1=[[[[[1]]]]]))))", 19);
    fault("false if " + "(".repeat(7) + "(1=1) and ([1]=[1])" + ")".repeat(7), 27);
    fault("false if " + "(".repeat(7) + "(1=1) and (1=1)" + ")".repeat(7), -1);
    fault("false if " + "not (".repeat(8) + "1=1" + ")".repeat(8), -1);
    fault("false if " + "not (".repeat(9) + "1=1" + ")".repeat(9), 53);
    fault("ours " + "[1]+".repeat(20) + "[1]", -1);
    fault("ours " + "[".repeat(8) + "1" + "]".repeat(8) + "+" + "[".repeat(8) + "1" + "]".repeat(8), -1);
    fault("ours " + "[".repeat(8) + "1" + "]".repeat(8) + ";ours " + "[".repeat(9), 36);
    tells("ours " + "[".repeat(8) + "7" + "]".repeat(8), 7);
    tells("ours 7 if " + "(".repeat(8) + "1=1" + ")".repeat(8), 7);
  }

  private void firstThatCannotGoOn() {
    due.sentence("II", "FAULT: the first TOKEN that can't go on there (the end's: the TEXT's length).");
    fault("x", 0);
    fault("  x", 2);
    fault("bay 1 x y z", 6);
    fault("bay 1;x;y", 6);
    fault("bay 1+lettr", 6);
    fault("bay 1 xy", 6);
    fault("bay", 3);
    fault("bay   ", 6);
    fault("bay 1+", 6);
    fault("bay 1+  ", 8);
    fault("bay 1;", 6);
    fault("bay 1 if 1=1 and (2=2", 21);
    fault("bay 1 if 1=1 and (2=2 ", 22);
    fault("bay 1 ", -1);
  }

  private void askedOfBooks() {
    due.sentence("II", "A TEXT is asked of a BOOK (letter, number without a MARK: -1).");
    RedMarks x = new RedMarks();
    x.book(-1, -1, 0, 1, 1);
    x.book(0, 1, 0, 1, 1);
    due.newText(x, "ours 10+letter");
    due.newText(x, "ours 10+number");
    due.newText(x, "ours 7 if letter=0-1 and number=0-1");
    due.newText(x, "false if letter<0 or number<1");
    due.is("letter", x.ours(0, 0, -1), 9);
    due.is("letter with a mark", x.ours(0, 1, -1), 10);
    due.is("number", x.ours(1, 0, -1), 9);
    due.is("number with a mark", x.ours(1, 1, -1), 11);
    due.is("both", x.ours(2, 0, -1), 7);
    due.is("both with a mark", x.ours(2, 1, -1), 0);
    due.is("false", x.untrue(3, 0, 0), 1);
    x.mark(0, 8, 99);
    due.is("letter then", x.ours(0, 0, -1), 18);
    due.is("number then", x.ours(1, 0, -1), 109);
    due.is("false then", x.untrue(3, 0, 0), 0);
  }

  private void beyond() {
    due.sentence("II", "Beyond 1,000,000,000 either way, or divided by 0, a SUM, a TEST is BROKEN; ");
    tells("ours 3;ours " + THOUSAND_CUBED + "/1000/1000/2", 500);
    tells("ours 3;ours [" + THOUSAND_CUBED + "+1]*0", 3);
    tells("ours 3;ours [" + THOUSAND_CUBED + "+0]*0", 0);
    tells("ours 3;ours [" + THOUSAND_CUBED + "-1+1]*0", 0);
    tells("ours 3;ours [" + THOUSAND_CUBED + "-1+2]*0", 3);
    tells("ours 3;ours [0-" + THOUSAND_CUBED + "]*0", 0);
    tells("ours 3;ours [0-" + THOUSAND_CUBED + "-1]*0", 3);
    tells("ours 3;ours [0-1-" + THOUSAND_CUBED + "]*0", 3);
    tells("ours 3;ours [0-" + THOUSAND_CUBED + "+1]*0", 0);
    tells("ours 3;ours [1-" + THOUSAND_CUBED + "-1]*0", 0);
    tells("ours 3;ours [0-1000]*1000*1000*0", 0);
    tells("ours 3;ours [0-1000]*1000*1000*2*0", 3);
    tells("ours 3;ours 999*999*999*0", 0);
    tells("ours 3;ours 1000*1000*1000*1000*1000*1000*0", 3);
    tells("ours 3;ours 1000*1000*[1000*1000]*0", 3);
    tells("ours 3;ours 4 if " + THOUSAND_CUBED + "=" + THOUSAND_CUBED, 4);
    tells("ours 3;ours 4 if " + THOUSAND_CUBED + "+1>0", 3);
    tells("ours 3;ours 4 if not " + THOUSAND_CUBED + "+1<0", 3);
    tells("ours 3;ours 4 if " + THOUSAND_CUBED + ">0-" + THOUSAND_CUBED, 4);
    tells("ours 3;ours 4 if 0-" + THOUSAND_CUBED + "<" + THOUSAND_CUBED, 4);
  }

  private void beyondInBetween() {
    due.sentence("II", "Beyond 1,000,000,000 either way");
    tells("ours 3;ours [" + THOUSAND_CUBED + "+1]/1000/1000", 3);
    tells("ours 3;ours [" + THOUSAND_CUBED + "+1-1]/1000/1000", 3);
    tells("ours 3;ours " + THOUSAND_CUBED + "+1-" + THOUSAND_CUBED, 3);
    tells("ours 3;ours " + THOUSAND_CUBED + "*2-" + THOUSAND_CUBED, 3);
    tells("ours 3;ours " + THOUSAND_CUBED + "-" + THOUSAND_CUBED + "+1", 1);
  }

  private void dividedByZero() {
    due.sentence("II", "or divided by 0");
    tells("ours 3;ours 1/0", 3);
    tells("ours 3;ours 0/0", 3);
    tells("ours 3;ours 0/1", 0);
    tells("ours 3;ours 1/[7-7]", 3);
    tells("ours 3;ours 1/hole", 3);
    tells("ours 3;ours 0*[1/0]", 3);
    tells("ours 3;ours 4 if 1/0=1/0", 3);
    tells("ours 3;ours 1/0 if 1=2", 3);
  }

  private void brokenTests() {
    due.sentence("II", "a SUM, a TEST is BROKEN; ");
    tells("ours 3;ours 4 if 1/0=1", 3);
    tells("ours 3;ours 4 if not 1/0=1", 3);
    tells("ours 3;ours 4 if not not 1/0=1", 3);
    tells("ours 3;ours 4 if (1/0=1)", 3);
    tells("ours 3;ours 4 if 1<1/0", 3);
    tells("ours 3;ours 4 if 1/0=1 or 1=1", 3);
    tells("ours 3;ours 4 if 1/0=1 and 1=2 or 1=1", 3);
    tells("ours 3;ours 4 if not (1/0=1 and 1=2)", 3);
  }

  private void cutTowardsZero() {
    due.sentence("II", "/ is cut towards 0.");
    tells("ours 7/2", 3);
    tells("ours 1/2", 0);
    tells("ours 8/2", 4);
    tells("ours 10+[0-7]/2", 7);
    tells("ours 10+[0-1]/2", 10);
    tells("ours 10+7/[0-2]", 7);
    tells("ours 10+1/[0-2]", 10);
    tells("ours 10+[0-7]/[0-2]", 13);
    tells("ours 10+[0-8]/2", 6);
  }

  private void holding() {
    due.sentence("II", "A CLAUSE HOLDS, if its \"if\" (if it has one) is so, and neither that nor its SUM is BROKEN ");
    tells("ours 5", 5);
    tells("ours 5 if 1=1", 5);
    tells("ours 3;ours 5 if 1=2", 3);
    tells("ours 3;ours 1/0 if 1=1", 3);
    tells("ours 3;ours 5 if 1/0=1", 3);
    tells("ours 3;ours 1/0 if 1/0=1", 3);
    tells("ours 3;ours 1/0", 3);
  }

  private void lazy() {
    due.sentence("II", "(\"or\", \"and\" ask what stands behind only if it can still matter).");
    tells("ours 3;ours 5 if 1=1 or 1/0=1", 5);
    tells("ours 3;ours 5 if 1=2 or 1/0=1", 3);
    tells("ours 3;ours 5 if 1=2 or 1=1 or 1/0=1", 5);
    tells("ours 3;ours 5 if not (1=2 and 1/0=1)", 5);
    tells("ours 3;ours 5 if not (1=1 and 1/0=1)", 3);
    tells("ours 3;ours 5 if not (1=1 and 1=2 and 1/0=1)", 5);
    tells("ours 3;ours 5 if 1=2 and 1/0=1 or 1=1", 5);
    tells("ours 3;ours 5 if 1=1 or 1/0=1 and 1/0=1", 5);
    tells("ours 3;ours 5 if (1=1 or 1/0=1) and 1=1", 5);
    tells("ours 3;ours 5 if (1=1 or 1/0=1) and 1/0=1", 3);
    tells("ours 3;ours 5 if not (1=1 or 1/0=1) or 2=2", 5);
  }

  private void lastThatHolds() {
    due.sentence("II", "Told by a HEAD is what the last CLAUSE with it that HOLDS tells; ");
    tells("ours 1;ours 2;ours 3", 3);
    tells("ours 1;ours 2;ours 3 if 1=2", 2);
    tells("ours 1;ours 2/0;ours 3 if 1=2", 1);
    tells("ours 1;bay 2;shelf 3;place 4;false", 1);
    tells("ours 1;ours 0", 0);
    RedMarks x = new RedMarks();
    x.book(3, 7, 50, 6, 9);
    due.newText(x, "bay 1;place 2;shelf 3;bay 4;place 5 if 1=2;shelf 1/0");
    due.is("bay", x.seat(0, 0, 0), 4);
    due.is("shelf", x.seat(0, 0, 1), 3);
    due.is("place", x.seat(0, 0, 2), 2);
  }

  private void toldNothing() {
    due.sentence("II", "a HEAD of which none HOLDS tells nothing.");
    tells("ours 1 if 1=2", 0);
    tells("ours 1/0", 0);
    tells("bay 1;false", 0);
    RedMarks x = new RedMarks();
    x.book(3, 7, 50, 6, 9);
    due.newText(x, "place 1");
    due.newText(x, "bay 1");
    due.newText(x, "bay 1 if 1=2;place 1");
    due.newText(x, "bay 1;place 1/0");
    due.newText(x, "bay 1;place 1;shelf 5 if 1=2;shelf 1/0");
    for (int text = 0; text < 4; text++) {
      due.is("no seat by text " + text, x.seat(text, 0, 0), -1);
    }
    due.is("shelf 0", x.seat(4, 0, 1), 0);
  }

  private void oursOfBooks() {
    due.sentence("35", "OURS of a BOOK by a TEXT (other NONE); ");
    RedMarks x = new RedMarks();
    x.book(0, 1, 7, 1, 1);
    x.book(-1, -1, 9, 1, 1);
    due.newText(x, "ours came");
    due.is("first", x.ours(0, 0, -1), 7);
    due.is("without a mark", x.ours(0, 1, -1), 9);
    x.fact(0, 2, 8);
    due.is("it changes with the book", x.ours(0, 0, -1), 8);
    due.sentence("35", "NONE.");
    due.range("text", 0, 0, -1, text -> x.ours(text, 0, -1));
    due.range("book", 0, 1, -1, book -> x.ours(0, book, -1));
    for (int other : new int[] {-2, 2, 40, Edges.SMALL, Edges.BIG}) {
      due.is("other " + other, x.ours(0, 0, other), -1);
    }
  }

  private void oursThroughBoth() {
    due.sentence("35", "through OURS of both it and another one, in hundredths, cut (0 by 0: 0).");
    RedMarks x = new RedMarks();
    int[] came = {1, 2, 0, 0, 197, 198};
    for (int year : came) {
      x.book(-1, -1, year, 1, 1);
    }
    due.newText(x, "ours came");
    due.is("1 of 3", x.ours(0, 0, 1), 33);
    due.is("2 of 3", x.ours(0, 1, 0), 66);
    due.is("1 of 1", x.ours(0, 0, 2), 100);
    due.is("0 of 1", x.ours(0, 2, 0), 0);
    due.is("0 by 0", x.ours(0, 2, 3), 0);
    due.is("1 of 199", x.ours(0, 0, 5), 0);
    due.is("198 of 199", x.ours(0, 5, 0), 99);
    due.is("197 of 199", x.ours(0, 4, 1), 98);
    due.newText(x, "ours 1000");
    due.is("1000 of 2000", x.ours(1, 0, 1), 50);
  }

  private void oursWithout() {
    due.sentence("IV", "OURS of a BOOK by a TEXT: what \"ours\" tells, 0 .. 1000 (else the nearest), 0 without.");
    tells("ours 1000", 1000);
    tells("ours 1000+1", 1000);
    tells("ours 1000-1", 999);
    tells("ours " + THOUSAND_CUBED, 1000);
    tells("ours 0-1", 0);
    tells("ours 0", 0);
    tells("ours 1", 1);
    tells("ours 0-" + THOUSAND_CUBED, 0);
    tells("bay 5", 0);
    tells("ours 5 if 1=2", 0);
    tells("ours 5/0", 0);
  }

  private void falseOfBooks() {
    due.sentence("IV", "It is FALSE by a TEXT, if a \"false\" HOLDS.");
    RedMarks x = new RedMarks();
    for (int year = 0; year < 4; year++) {
      x.book(-1, -1, year, 1, 1);
    }
    due.newText(x, "false");
    due.newText(x, "false if came>1");
    due.newText(x, "false if came=0;false if came=3");
    due.newText(x, "false if 6/came=3");
    due.newText(x, "bay 1");
    due.newText(x, "false if 1=2");
    int[] want = {4, 2, 2, 1, 0, 0};
    for (int text = 0; text < 6; text++) {
      due.is("by text " + text, x.untrue(text, 0, 0), want[text]);
    }
    due.is("one that holds, then one that does not", x.untrue(2, 1, 0), 0);
    due.is("the other of them", x.untrue(2, 1, 1), 3);
  }

  private void falseAnswers() {
    due.sentence("36", "FALSE by a TEXT: how many (what 0), the i-th (1). NONE.");
    RedMarks x = new RedMarks();
    due.newText(x, "false if came>1");
    due.newText(x, "false if came>90");
    due.is("without books", x.untrue(0, 0, 0), 0);
    due.is("the first without books", x.untrue(0, 1, 0), -1);
    for (int n = 0; n < 40; n++) {
      x.book(-1, -1, n % 3, 1, 1);
    }
    due.is("how many", x.untrue(0, 0, 0), 13);
    due.row("untrue", i -> x.untrue(0, 1, i), -1, 2, 5, 8, 11, 14, 17, 20, 23, 26, 29, 32, 35, 38);
    due.is("i NONE", x.untrue(0, 1, -1), -1);
    due.is("none is", x.untrue(1, 0, 0), 0);
    due.is("the first of none", x.untrue(1, 1, 0), -1);
    due.range("what", 0, 1, -1, what -> x.untrue(0, what, 0));
    due.range("text", 0, 1, -1, text -> x.untrue(text, 0, 0));
  }
}
