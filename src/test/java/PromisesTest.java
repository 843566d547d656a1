/** Each promise of the document by hand: ordinary inputs, edges, wrong inputs. */
public final class PromisesTest {
  private static final int NOTHING = -1000;
  private static final int BIG = Integer.MAX_VALUE;
  private static final int SMALL = Integer.MIN_VALUE;
  private static final String BY_MARK = "bay letter;place number";
  private static final Due due = new Due("PromisesTest");

  public static void main(String[] args) {
    newObject();
    books();
    facts();
    marks();
    bays();
    tapes();
    rows();
    texts();
    faults();
    faultsAtLimits();
    asked();
    broken();
    seats();
    histories();
    bests();
    kept();
    gaps();
    sets();
    lines();
    fighting();
    wanted();
    running();
    binders();
    near();
    closeOnes();
    agreeing();
    matching();
    manyMatches();
    sureOnes();
    ourOnes();
    falseOnes();
    twins();
    stacks();
    stackRows();
    houses();
    leftOnes();
    growing();
    worlds();
    imagesKeep();
    imagesLeave();
    statuses();
    refusals();
    due.finish();
  }

  private static void newObject() {
    due.part("1 new");
    RedMarks x = new RedMarks();
    due.is("NONE", RedMarks.NONE, -1);
    for (int what = 0; what <= 11; what++) {
      due.is("count(" + what + ")", x.count(what), 0);
    }
    due.is("count(12)", x.count(12), -1);
    due.is("count(-1)", x.count(-1), -1);
    due.is("status", x.status(), 0);
    due.is("fault", x.fault(), -1);
    due.is("rebound", x.rebound(), 0);
    due.is("best", x.best(0), -1);
    due.is("how", x.how(0), -1);
    due.is("went", x.went(0), -1);
    due.is("free", x.free(0, 0), NOTHING);
    due.is("bay(8, 1)", x.bay(8, 1), 0);
    due.is("match(0)", x.match(0), 0);
    due.is("match(1)", x.match(1), 1);
    due.is("back(0)", x.back(0), -2);
  }

  private static void books() {
    due.part("2 book");
    RedMarks x = new RedMarks();
    due.is("letter 9", x.book(9, 1, 0, 1, 1), -1);
    due.is("letter -2", x.book(-2, 1, 0, 1, 1), -1);
    due.is("number 0", x.book(0, 0, 0, 1, 1), -1);
    due.is("number 100", x.book(0, 100, 0, 1, 1), -1);
    due.is("letter NONE alone", x.book(-1, 1, 0, 1, 1), -1);
    due.is("number NONE alone", x.book(0, -1, 0, 1, 1), -1);
    due.is("came 200", x.book(0, 1, 200, 1, 1), -1);
    due.is("came -1", x.book(0, 1, -1, 1, 1), -1);
    due.is("thick 0", x.book(0, 1, 0, 0, 1), -1);
    due.is("thick 31", x.book(0, 1, 0, 31, 1), -1);
    due.is("tall 0", x.book(0, 1, 0, 1, 0), -1);
    due.is("tall 41", x.book(0, 1, 0, 1, 41), -1);
    due.is("far off", x.book(BIG, SMALL, BIG, SMALL, BIG), -1);
    due.is("count(0)", x.count(0), 0);
    due.is("least", x.book(0, 1, 0, 1, 1), 0);
    due.is("most", x.book(8, 99, 199, 30, 40), 1);
    due.is("without", x.book(-1, -1, 5, 6, 7), 2);
    for (int n = 3; n < 40; n++) {
      due.is("book " + n, x.book(0, 1, 0, 1, 1), n);
    }
    due.is("41st", x.book(0, 1, 0, 1, 1), -5);
    due.is("41st, wrong", x.book(9, 1, 0, 1, 1), -1);
    due.is("count(0)", x.count(0), 40);
    due.is("count(1)", x.count(1), 39);
    due.is("count(7)", x.count(7), 14);
    due.is("count(10)", x.count(10), 1);
  }

  private static void facts() {
    due.part("3 fact, 5 of");
    RedMarks x = new RedMarks();
    x.book(3, 4, 5, 6, 7);
    x.book(-1, -1, 0, 1, 1);
    int[] first = {3, 4, 5, 6, 7, 0, 0, 0, 0, 0, 0, 0};
    int[] least = {0, 1, 0, 1, 1, 0, 0, 0, 0, 0, 0, 0};
    int[] most = {8, 99, 199, 30, 40, 2, 40, 9, 9, 999, 7, 11};
    for (int f = 0; f < 12; f++) {
      due.is("of(0, " + f + ")", x.of(0, f), first[f]);
    }
    for (int f = 2; f < 12; f++) {
      due.is("fact " + f + " above", x.fact(0, f, most[f] + 1), -1);
      due.is("fact " + f + " below", x.fact(0, f, least[f] - 1), -1);
      due.is("fact " + f + " most", x.fact(0, f, most[f]), first[f]);
      due.is("fact " + f + " least", x.fact(0, f, least[f]), most[f]);
      due.is("of " + f, x.of(0, f), least[f]);
      due.is("of the other " + f, x.of(1, f), f == 3 || f == 4 ? 1 : 0);
    }
    due.is("fact 0", x.fact(0, 0, 1), -1);
    due.is("fact 1", x.fact(0, 1, 1), -1);
    due.is("fact -1", x.fact(0, -1, 1), -1);
    due.is("fact 12", x.fact(0, 12, 1), -1);
    due.is("no such book", x.fact(2, 2, 1), -2);
    due.is("book -1", x.fact(-1, 2, 1), -2);
    due.is("book 40", x.fact(40, 2, 1), -2);
    due.is("no such book, wrong value", x.fact(2, 2, 200), -1);
    due.is("far off", x.fact(BIG, BIG, BIG), -1);
    due.is("of(1, 0)", x.of(1, 0), -1);
    due.is("of(1, 1)", x.of(1, 1), -1);
    due.is("of(2, 0)", x.of(2, 0), NOTHING);
    due.is("of(-1, 0)", x.of(-1, 0), NOTHING);
    due.is("of(0, -1)", x.of(0, -1), NOTHING);
    due.is("of(0, 12)", x.of(0, 12), NOTHING);
    due.is("of(BIG, BIG)", x.of(BIG, BIG), NOTHING);
  }

  private static void marks() {
    due.part("4 mark");
    RedMarks x = new RedMarks();
    x.book(3, 4, 5, 6, 7);
    due.is("mark", x.mark(0, 8, 99), 0);
    due.is("letter", x.of(0, 0), 8);
    due.is("number", x.of(0, 1), 99);
    due.is("came stays", x.of(0, 2), 5);
    due.is("letter 9", x.mark(0, 9, 1), -1);
    due.is("number 0", x.mark(0, 0, 0), -1);
    due.is("number 100", x.mark(0, 0, 100), -1);
    due.is("half", x.mark(0, -1, 1), -1);
    due.is("other half", x.mark(0, 1, -1), -1);
    due.is("as it was", x.of(0, 1), 99);
    due.is("no book", x.mark(1, 0, 1), -2);
    due.is("book -1", x.mark(-1, 0, 1), -2);
    due.is("no book, wrong", x.mark(1, 9, 1), -1);
    due.is("none", x.mark(0, -1, -1), 0);
    due.is("of", x.of(0, 0), -1);
    due.is("count(1)", x.count(1), 0);
  }

  private static void bays() {
    due.part("6 bay, 7 shelf");
    RedMarks x = new RedMarks();
    due.is("bay(0, 2)", x.bay(0, 2), 0);
    due.is("bay(0, 1)", x.bay(0, 1), 2);
    due.is("bay(0, 3)", x.bay(0, 3), -1);
    due.is("bay(0, -1)", x.bay(0, -1), -1);
    due.is("bay(9, 0)", x.bay(9, 0), -1);
    due.is("bay(-1, 0)", x.bay(-1, 0), -1);
    due.is("bay(0, 0)", x.bay(0, 0), 1);
    due.is("bay(8, 0)", x.bay(8, 0), 0);
    due.is("least", x.shelf(0, 0, 1, 1), 0);
    due.is("most", x.shelf(8, 5, 400, 60), 0);
    due.is("bay 9", x.shelf(9, 0, 1, 1), -1);
    due.is("bay -1", x.shelf(-1, 0, 1, 1), -1);
    due.is("shelf 6", x.shelf(0, 6, 1, 1), -1);
    due.is("shelf -1", x.shelf(0, -1, 1, 1), -1);
    due.is("wide 0", x.shelf(0, 0, 0, 1), -1);
    due.is("wide 401", x.shelf(0, 0, 401, 1), -1);
    due.is("high 0", x.shelf(0, 0, 1, 0), -1);
    due.is("high 61", x.shelf(0, 0, 1, 61), -1);
    Due.text(x, "bay 0;place 1");
    x.book(0, 1, 0, 1, 1);
    x.keep(0, 0, 0);
    due.is("wide 1", x.free(0, 0), 0);
    due.is("wide 400", x.free(8, 5), 400);
    due.is("wide at first", x.free(0, 1), 100);
    x.fact(0, 4, 2);
    due.is("high 1", x.how(0), 2);
  }

  private static void tapes() {
    due.part("8 feed, 9 end");
    RedMarks x = new RedMarks();
    for (int n = 1; n <= 20; n++) {
      due.is("feed " + n, x.feed(n, 0, -1, BIG, SMALL), 20 * n);
    }
    due.is("feed 21", x.feed(0, 0, 0, 0, 0), -1);
    due.is("count(6)", x.count(6), 400);
    due.is("end(401)", x.end(401), -1);
    due.is("end(400)", x.end(400), 400);
    due.is("end(-1)", x.end(-1), -1);
    due.is("end(BIG)", x.end(BIG), -1);
    due.is("end(381)", x.end(381), 381);
    due.is("feed at 381", x.feed(0, 0, 0, 0, 0), -1);
    due.is("end(382)", x.end(382), -1);
    due.is("end(380)", x.end(380), 380);
    due.is("feed at 380", x.feed(0, 0, 0, 0, 0), 400);
    due.is("end(0)", x.end(0), 0);
    due.is("count(6)", x.count(6), 0);
    due.is("nothing was refused", x.count(7), 0);
    due.is("status", x.status(), 0);
  }

  private static void rows() {
    due.part("10 row, 11 rebound");
    RedMarks x = new RedMarks();
    due.is("empty", x.row(), -6);
    due.is("status", x.status(), -6);
    Due.tape(x, "\u0008\u0063\u00c7\u001e\u0028\u0000\u0001\u0000\u0001\u0001");
    due.is("two", x.row(), 2);
    due.is("status", x.status(), 0);
    due.is("rebound", x.rebound(), 0);
    due.is("count(6)", x.count(6), 0);
    int[] most = {8, 99, 199, 30, 40, 0};
    int[] least = {0, 1, 0, 1, 1, 0};
    for (int f = 0; f < 6; f++) {
      due.is("of(0, " + f + ")", x.of(0, f), most[f]);
      due.is("of(1, " + f + ")", x.of(1, f), least[f]);
    }
    String wrong = "\u0009\u0001\u0000\u0001\u0001" + "\u0000\u0000\u0000\u0001\u0001"
        + "\u0000\u0064\u0000\u0001\u0001" + "\u0000\u0001\u00c8\u0001\u0001"
        + "\u0000\u0001\u0000\u0000\u0001" + "\u0000\u0001\u0000\u001f\u0001"
        + "\u0000\u0001\u0000\u0001\u0000" + "\u0000\u0001\u0000\u0001\u0029"
        + "\u00ff\u00ff\u0000\u0001\u0001" + "\u0000\u0001\u0000\u0001";
    Due.tape(x, wrong);
    due.is("wrong ones", x.row(), 0);
    due.is("rebound", x.rebound(), 10);
    due.is("empty again", x.row(), -6);
    due.is("rebound stays", x.rebound(), 10);
    String good = "\u0001\u0002\u0003\u0004\u0005";
    Due.tape(x, good.repeat(37));
    due.is("37", x.row(), 37);
    due.is("rebound", x.rebound(), 0);
    Due.tape(x, good + wrong.substring(0, 5) + good + good);
    due.is("no room", x.row(), 1);
    due.is("rebound", x.rebound(), 3);
    due.is("count(0)", x.count(0), 40);
    due.is("count(10)", x.count(10), 0);
    due.is("count(11)", x.count(11), 2);
  }

  private static void texts() {
    due.part("12 text");
    RedMarks x = new RedMarks();
    for (int n = 0; n < 7; n++) {
      due.is("text " + n, Due.text(x, "bay " + n), n);
    }
    due.is("count(6)", x.count(6), 0);
    due.is("fault", x.fault(), -1);
    due.is("wrong", Due.text(x, "bay"), -6);
    due.is("empty then", x.count(6), 0);
    due.is("fault", x.fault(), 3);
    due.is("text 7", Due.text(x, " false "), 7);
    due.is("fault", x.fault(), -1);
    due.is("text 8", Due.text(x, "bay 1"), -5);
    due.is("empty then", x.count(6), 0);
    due.is("text 8, wrong", Due.text(x, "bays"), -5);
    due.is("fault of the latest that was read", x.fault(), -1);
    due.is("count(2)", x.count(2), 8);
    due.is("count(10)", x.count(10), 2);
    due.is("count(11)", x.count(11), 1);
    x.book(0, 1, 0, 1, 1);
    due.is("text 8 is none", x.seat(8, 0, 0), -1);
    due.is("text 8 does not stand", x.stand(8, 0, 0), -1);
    due.is("text 8 can't be kept", x.keep(0, 8, 0), -2);
    due.is("text 8 tells nothing", x.ours(8, 0, -1), -1);
    due.is("text 8 is not false", x.untrue(8, 0, 0), -1);
  }

  private static void fault(String text, int place) {
    RedMarks x = new RedMarks();
    due.is("text \"" + text + "\"", Due.text(x, text), place == -1 ? 0 : -6);
    due.is("fault \"" + text + "\"", x.fault(), place);
  }

  private static void faults() {
    due.part("13 fault");
    fault("", 0);
    fault("   ", 3);
    fault("bay", 3);
    fault("bay  ", 5);
    fault("bay1", -1);
    fault("bay 1;", 6);
    fault("bay 1;  ", 8);
    fault("bay 1;;", 6);
    fault(";", 0);
    fault("bay 1 2", 6);
    fault("bays 1", 0);
    fault("Bay 1", 0);
    fault("cay 1", 0);
    fault("bax 1", 0);
    fault("bayz 1", 0);
    fault("zbay 1", 0);
    fault("abay 1", 0);
    fault("bay`1", 3);
    fault("bay{1", 3);
    fault("bay 9:", 5);
    fault("bay 0", -1);
    fault("bay 9", -1);
    fault("\tbay 1", 0);
    fault("bay\t1", 3);
    fault("bay -1", 4);
    fault("bay 1 if", 8);
    fault("bay 1 if 1", 10);
    fault("bay 1 if 1=", 11);
    fault("bay 1 if 1=1", -1);
    fault("bay 1 if 1=1=1", 12);
    fault("bay 1 if 1==1", 11);
    fault("bay 1 if 1<>1", 11);
    fault("bay 1 if 1<1 or", 15);
    fault("bay 1 if 1<1 or 1", 17);
    fault("bay 1 if or", 9);
    fault("bay 1 if 1>1 and not not (1=1 or 2=2)", -1);
    fault("bay 1 if not", 12);
    fault("bay 1 if (1=1", 13);
    fault("bay 1 if (1=1]", 13);
    fault("bay 1 if (1)", 11);
    fault("bay 1 if [1]=(1)", 13);
    fault("bay 1 if 1=1)", 12);
    fault("bay 1 if 1=1 if 1=1", 13);
    fault("bay [1", 6);
    fault("bay [1)", 6);
    fault("bay (1)", 4);
    fault("bay []", 5);
    fault("bay 1]", 5);
    fault("bay 1+", 6);
    fault("bay 1+*2", 6);
    fault("bay 1+[2*3-4]/5", -1);
    fault("bay letters", 4);
    fault("bay lettre", 4);
    fault("bay bay", 4);
    fault("false", -1);
    fault("false 1", 6);
    fault("false if 1=1", -1);
    fault("false;false;", 12);
    fault("true", 0);
    fault("ours letter+number+came+thick+tall+hole+height+star+damp+word+subject+house", -1);
    fault("shelf 1;place 1;ours 1;bay 1;false", -1);
    fault("bay 1\u00e9", 5);
    fault("bay 1if 1=1", -1);
    fault("bay 1 if1=1", -1);
    fault("bay 1 ifletter=1", 6);
  }

  private static void faultsAtLimits() {
    due.part("13 fault at limits");
    fault("bay 1000", -1);
    fault("bay 1001", 4);
    fault("bay 00000000000000000001000", -1);
    fault("bay 99999999999999999999999", 4);
    fault("bay 4294967296", 4);
    fault("bay 1;".repeat(11) + "bay 1", -1);
    fault("bay 1;".repeat(12) + "bay 1", 72);
    fault("bay 1;".repeat(12) + " bays", 73);
    fault("bay 1;".repeat(12), 72);
    fault("bay 1;".repeat(12) + "  ", 74);
    fault("bay " + "1+".repeat(49) + "1", -1);
    fault("bay " + "1+".repeat(50) + "1", 104);
    fault("bay " + "1+".repeat(24) + "1;bay " + "star+".repeat(24) + "1", -1);
    fault("bay " + "1+".repeat(24) + "1;bay " + "1+".repeat(25) + "1", 108);
    fault("bay " + "1+".repeat(50) + "[", 105);
    fault("bay " + "[".repeat(8) + "1" + "]".repeat(8), -1);
    fault("bay " + "[".repeat(9) + "1" + "]".repeat(9), 12);
    fault("bay [1]+[1]+[1]+[1]+[1]+[1]+[1]+[1]+[1]+[1]", -1);
    fault("false if " + "(".repeat(8) + "1=1" + ")".repeat(8), -1);
    fault("false if " + "(".repeat(9) + "1=1" + ")".repeat(9), 17);
    fault("false if ((((1=[[[[1]]]]))))", -1);
    fault("false if ((((1=[[[[[1]]]]]))))", 19);
    fault("false if (((((((([1]=1))))))))", 17);
    fault("false if not (((((((not (1=1)))))))) and (1=1)", -1);
    fault("false if " + "not ".repeat(97) + "1=", 399);
    fault("false if " + "not ".repeat(96) + "1=1", -1);
    fault("bay 1;".repeat(65) + "bay 1", 72);
    fault(" ".repeat(400), 400);
    fault(" ".repeat(395) + "bay 1", -1);
    fault("[".repeat(400), 0);
    fault("bay " + "[".repeat(396), 12);
  }

  /** What "ours" tells of a book with letter 3, number 7, came 50, thick 6, tall 9 and facts 1 to 7. */
  private static int tells(String text) {
    RedMarks x = new RedMarks();
    x.book(3, 7, 50, 6, 9);
    for (int f = 5; f <= 11; f++) {
      x.fact(0, f, f == 5 ? 1 : f + 1 > 9 ? f - 8 : f + 1);
    }
    due.is("text \"" + text + "\"", Due.text(x, text), 0);
    return x.ours(0, 0, -1);
  }

  private static void tell(String text, int want) {
    due.is("ours by \"" + text + "\"", tells(text), want);
  }

  private static void asked() {
    due.part("II what a text tells");
    tell("ours letter", 3);
    tell("ours number", 7);
    tell("ours came", 50);
    tell("ours thick", 6);
    tell("ours tall", 9);
    tell("ours hole", 1);
    tell("ours height", 7);
    tell("ours star", 8);
    tell("ours damp", 9);
    tell("ours word", 1);
    tell("ours subject", 2);
    tell("ours house", 3);
    tell("ours 2+3*4", 14);
    tell("ours [2+3]*4", 20);
    tell("ours 20-3-4", 13);
    tell("ours 100/7/2", 7);
    tell("ours 100*7/2", 350);
    tell("ours 7/2*2", 6);
    tell("ours 10+[0-7]/2", 7);
    tell("ours 10+7/[0-2]", 7);
    tell("ours 5;ours 6", 6);
    tell("ours 5;ours 6 if 1=2", 5);
    tell("ours 5 if 1=1;ours 6 if 1=1;bay 7", 6);
    tell("ours 5 if 1=2", 0);
    tell("bay 5;place 6;shelf 7;false", 0);
    tell("ours 5 if 1<2", 5);
    tell("ours 5 if 2<2", 0);
    tell("ours 5 if 3>2", 5);
    tell("ours 5 if 2>2", 0);
    tell("ours 5 if not 2>2", 5);
    tell("ours 5 if not not 2>2", 0);
    tell("ours 5 if not 2>2 and 1=1", 5);
    tell("ours 5 if not 1=1 and 1=1", 0);
    tell("ours 5 if not (not 1=1)", 5);
    tell("ours 5 if not (not 1=2)", 0);
    tell("ours 5 if not 1=1 or not 1=1", 0);
    tell("ours 5 if not (2>2 or 1=1)", 0);
    tell("ours 5 if 1=1 or 1=1 and 1=2", 5);
    tell("ours 5 if (1=1 or 1=1) and 1=2", 0);
    tell("ours 5 if 1=2 and 1=2 or 1=1", 5);
    tell("ours 5 if 1=2 and (1=2 or 1=1)", 0);
    tell("ours 5 if 1=2 or 1=2 or 1=1", 5);
    tell("ours 5 if 1=1 and 1=1 and 1=2", 0);
    tell("ours 5 if 1=2 or 1=1 or 1=2", 5);
    tell("ours 5 if 1=1 and 1=2 and 1=1", 0);
    tell("ours 5 if number=7 and came>49 and damp<10", 5);
  }

  private static void broken() {
    due.part("II broken");
    tell("ours 5;ours 1/0", 5);
    tell("ours 5;ours 0/0", 5);
    tell("ours 5;ours 0*[1/0]", 5);
    tell("ours 5;ours 6 if 1/0=1", 5);
    tell("ours 5;ours 6 if not 1/0=1", 5);
    tell("ours 5;ours 6 if 1=1/0", 5);
    tell("ours 5;ours 6 if 1=1 or 1/0=1", 6);
    tell("ours 5;ours 6 if 1=2 or 1/0=1", 5);
    tell("ours 5;ours 6 if 1/0=1 or 1=1", 5);
    tell("ours 5;ours 6 if not (1=2 and 1/0=1)", 6);
    tell("ours 5;ours 6 if not (1=1 and 1/0=1)", 5);
    tell("ours 5;ours 6 if not (1/0=1 and 1=2)", 5);
    tell("ours 5;ours 6 if 1=2 and 1/0=1 or 1=1", 6);
    tell("ours 5;ours 6 if (1=1 or 1/0=1) and 1=1", 6);
    tell("ours 5;ours 6 if 1=2 and 1/0=1", 5);
    tell("ours 5;ours 1000*1000*1000/1000/1000", 1000);
    tell("ours 5;ours [1000*1000*1000+1]/1000/1000", 5);
    tell("ours 5;ours [1+1000*1000*1000-1]/1000/1000", 5);
    tell("ours 5;ours 7+[0-1000*1000*1000]/1000/1000/1000", 6);
    tell("ours 5;ours 7+[0-1000*1000*1000-1]/1000/1000/1000", 5);
    tell("ours 5;ours 1000*1000*1000*1000*0", 5);
    tell("ours 5;ours 1000*1000*1000*1000*1000*1000*1000*1000*1000*1000/1000", 5);
    tell("ours 5;ours 6 if 1000*1000*1000=1000*1000*1000", 6);
    tell("ours 5;ours 6 if 1000*1000*1000*2>1", 5);
    RedMarks x = new RedMarks();
    x.book(-1, -1, 0, 1, 1);
    Due.text(x, "ours 3+letter;ours 5 if number=0-1 and letter=0-1");
    due.is("without a mark", x.ours(0, 0, -1), 5);
    Due.text(x, "ours 3+letter");
    due.is("letter without a mark", x.ours(1, 0, -1), 2);
  }

  private static void seats() {
    due.part("14 seat");
    RedMarks x = new RedMarks();
    x.book(8, 99, 5, 3, 40);
    x.book(-1, -1, 5, 3, 40);
    int whole = Due.text(x, "bay letter;shelf 5;place number");
    due.is("bay", x.seat(whole, 0, 0), 8);
    due.is("shelf", x.seat(whole, 0, 1), 5);
    due.is("place", x.seat(whole, 0, 2), 99);
    due.is("right", x.seat(whole, 0, 3), 1);
    due.is("what 4", x.seat(whole, 0, 4), -1);
    due.is("what -1", x.seat(whole, 0, -1), -1);
    due.is("no book", x.seat(whole, 2, 0), -1);
    due.is("book -1", x.seat(whole, -1, 0), -1);
    due.is("no text", x.seat(1, 0, 0), -1);
    due.is("text -1", x.seat(-1, 0, 0), -1);
    due.is("without a mark", x.seat(whole, 1, 0), -1);
    due.is("without a mark, right", x.seat(whole, 1, 3), -1);
    int shelfless = Due.text(x, "bay 0;place 1");
    due.is("shelf 0 untold", x.seat(shelfless, 0, 1), 0);
    due.is("bay 0", x.seat(shelfless, 0, 0), 0);
    due.is("place 1", x.seat(shelfless, 0, 2), 1);
    String[] none = {"bay 9;place 1", "bay 0-1;place 1", "bay 0;place 0", "bay 0;place 100", "place 1"};
    for (String text : none) {
      int at = Due.text(x, text);
      due.is("bay by " + text, x.seat(at, 0, 0), -1);
      due.is("right by " + text, x.seat(at, 0, 3), -1);
    }
    due.is("too many", Due.text(x, "bay 0"), 7);
    due.is("no place", x.seat(7, 0, 0), -1);
    rightSeats();
    shelfSeats();
  }

  private static void shelfSeats() {
    RedMarks x = new RedMarks();
    x.book(0, 1, 0, 1, 1);
    due.is("shelf 6", x.seat(Due.text(x, "bay 0;place 1;shelf 6"), 0, 0), -1);
    due.is("shelf -1", x.seat(Due.text(x, "bay 0;place 1;shelf 0-1"), 0, 0), -1);
    due.is("shelf broken", x.seat(Due.text(x, "bay 0;place 1;shelf 1/0"), 0, 1), 0);
    due.is("shelf beyond, then told", x.seat(Due.text(x, "bay 0;place 1;shelf 6;shelf 2"), 0, 1), 2);
    due.is("shelf told, then beyond", x.seat(Due.text(x, "bay 0;place 1;shelf 2;shelf 6"), 0, 1), -1);
    due.is("the book changes", x.mark(0, 2, 7), 0);
    int by = Due.text(x, BY_MARK);
    due.is("bay", x.seat(by, 0, 0), 2);
    x.mark(0, 3, 7);
    due.is("bay then", x.seat(by, 0, 0), 3);
    x.mark(0, -1, -1);
    due.is("bay without", x.seat(by, 0, 0), -1);
    x = new RedMarks();
    x.book(0, 1, 0, 1, 1);
    x.book(0, 1, 0, 1, 1);
    for (int n = 0; n < 8; n++) {
      Due.text(x, "bay damp;place " + (n + 1));
      due.is("bay of text " + n, x.seat(n, 1, 0), 0);
    }
    x.fact(1, 8, 6);
    for (int n = 0; n < 8; n++) {
      due.is("bay by damp of text " + n, x.seat(n, 1, 0), 6);
      due.is("place by text " + n, x.seat(n, 1, 2), n + 1);
    }
  }

  private static void rightSeats() {
    RedMarks x = new RedMarks();
    x.book(2, 1, 0, 1, 30);
    Due.text(x, BY_MARK);
    due.is("at first", x.seat(0, 0, 3), 1);
    x.shelf(2, 0, 100, 29);
    due.is("too tall", x.seat(0, 0, 3), 0);
    x.shelf(2, 0, 100, 30);
    due.is("as tall", x.seat(0, 0, 3), 1);
    x.fact(0, 4, 31);
    due.is("taller", x.seat(0, 0, 3), 0);
    x.fact(0, 4, 30);
    for (int side = 0; side <= 2; side++) {
      for (int hole = 0; hole <= 2; hole++) {
        x.bay(2, side);
        x.fact(0, 5, hole);
        int right = side == 0 || hole == 0 || side == hole ? 1 : 0;
        due.is("side " + side + ", hole " + hole, x.seat(0, 0, 3), right);
      }
    }
    due.is("another bay does not matter", x.bay(1, 1), 0);
    due.is("right", x.seat(0, 0, 3), 1);
  }

  private static void histories() {
    due.part("15 stand");
    RedMarks x = new RedMarks();
    Due.text(x, "bay 0;place number");
    Due.text(x, "bay 1;place number");
    due.is("without books", x.stand(0, 0, 0), 0);
    x.book(0, 1, 10, 1, 1);
    x.book(0, 1, 20, 1, 1);
    x.book(0, 1, 30, 1, 1);
    x.book(0, 2, 30, 1, 1);
    x.book(-1, -1, 30, 1, 1);
    due.is("all by the second", x.stand(0, 1, 0), 2);
    due.is("year 10", x.stand(0, 1, 10), 2);
    due.is("year 11", x.stand(0, 1, 11), 3);
    due.is("year 30", x.stand(0, 1, 30), 3);
    due.is("year 31", x.stand(0, 1, 31), 2);
    due.is("year 200", x.stand(0, 1, 200), 2);
    due.is("year 201", x.stand(0, 1, 201), -1);
    due.is("year -1", x.stand(0, 1, -1), -1);
    due.is("no first", x.stand(2, 1, 0), -1);
    due.is("no second", x.stand(0, 2, 0), -1);
    due.is("text -1", x.stand(-1, 0, 0), -1);
    x.fact(0, 4, 40);
    x.shelf(1, 0, 100, 39);
    due.is("one that is not right leaves the seat", x.stand(1, 1, 0), 2);
    x.fact(1, 4, 40);
    x.fact(2, 4, 40);
    due.is("none right there", x.stand(1, 1, 0), 1);
    due.is("nothing was kept", x.how(0), -1);
    due.is("came 199", x.fact(3, 2, 199), 30);
    x.shelf(0, 0, 100, 39);
    due.is("year 199", x.stand(0, 1, 199), 1);
  }

  private static void bests() {
    due.part("16 best");
    RedMarks x = new RedMarks();
    due.is("without texts", x.best(0), -1);
    Due.text(x, "bay 9");
    for (int what = 0; what <= 4; what++) {
      due.is("without books " + what, x.best(what), what == 4 ? 201 : 0);
    }
    x.book(0, 1, 10, 1, 1);
    x.book(0, 1, 20, 1, 1);
    x.book(0, 1, 0, 1, 1);
    Due.text(x, "bay 0;place 1");
    Due.text(x, "bay 1;place 1");
    // by 1 and 2 two stand while the year parts them: 1 .. 20, in both orders
    int[] want = {2, 1, 2, 1, 40};
    for (int what = 0; what <= 4; what++) {
      due.is("best(" + what + ")", x.best(what), want[what]);
    }
    x.fact(0, 2, 0);
    x.fact(1, 2, 0);
    // one behind the others alone: from the year behind theirs to its own
    x.fact(2, 2, 150);
    due.is("year", x.best(3), 1);
    due.is("as good", x.best(4), 2 * 150);
    x.fact(2, 4, 40);
    x.shelf(1, 0, 100, 39);
    due.is("year, the second not right", x.best(3), 1);
    due.is("first, the second not right", x.best(1), 2);
    due.is("as good, the second not right", x.best(4), 150);
    x.mark(1, -1, -1);
    x.mark(2, -1, -1);
    due.is("one alone", x.best(0), 1);
    // by 1 or 2 for the first from year 1 on with any second, or for the second in year 0
    due.is("as good, one alone", x.best(4), 2 * 3 * 200 + 2 * 3);
    due.is("its year", x.best(3), 0);
    x.mark(1, 0, 1);
    x.mark(2, 0, 1);
    x.fact(0, 2, 10);
    x.fact(1, 2, 20);
    x.fact(2, 4, 1);
    x.shelf(1, 0, 100, 40);
    due.is("best(5)", x.best(5), -1);
    due.is("best(-1)", x.best(-1), -1);
    x.fact(2, 2, 199);
    due.is("year", x.best(3), 11);
    due.is("as good", x.best(4), 2 * 189);
    Due.text(x, "bay 0;place 1+came/100*5");
    // 3 parts the last one from the others; with 1 or 2 for the first of them all three stand
    int[] three = {3, 2, 3, 11, 10};
    for (int what = 0; what <= 4; what++) {
      due.is("three(" + what + ")", x.best(what), three[what]);
    }
    x.bay(1, 1);
    x.fact(0, 5, 2);
    due.is("first not right", x.best(0), 2);
    x.shelf(0, 0, 100, 1);
    due.is("high enough", x.best(0), 2);
    x.fact(1, 4, 2);
    due.is("first: without a seat, as good", x.best(1), 0);
    due.is("second", x.best(2), 3);
    due.is("year", x.best(3), 0);
    bestsByAll();
  }

  private static RedMarks threeSchemes() {
    RedMarks x = new RedMarks();
    Due.text(x, "bay letter;place number;shelf star");
    Due.text(x, "bay letter;place thick");
    Due.text(x, "bay damp;place number;shelf 1 if came>100");
    for (int n = 0; n < 14; n++) {
      x.book(n % 2, 1 + n % 5, n * 37 % 200, 1 + n % 4, 10 + n);
      x.fact(n, 7, n % 3);
      x.fact(n, 8, n % 4);
    }
    x.shelf(1, 0, 100, 18);
    return x;
  }

  /** BEST against all histories in order; an object has but 512 calls, so each pair has a new one. */
  private static void bestsByAll() {
    int[] want = {-1, 0, 0, 0, 0};
    for (int pair = 0; pair < 9; pair++) {
      RedMarks x = threeSchemes();
      for (int year = 0; year <= 200; year++) {
        int standing = x.stand(pair / 3, pair % 3, year);
        if (standing > want[0]) {
          want = new int[] {standing, pair / 3, pair % 3, year, 1};
        } else if (standing == want[0]) {
          want[4]++;
        }
      }
    }
    RedMarks x = threeSchemes();
    for (int what = 0; what <= 4; what++) {
      due.is("by all(" + what + ")", x.best(what), want[what]);
    }
  }

  private static void kept() {
    due.part("17 keep, 18 how, 19 on, 20 free");
    RedMarks x = new RedMarks();
    due.is("no texts", x.keep(0, 0, 0), -2);
    Due.text(x, "bay 0;shelf letter;place number");
    Due.text(x, "bay 1;place number if number<50");
    x.book(0, 9, 10, 4, 20);
    x.book(0, 3, 10, 5, 20);
    x.book(0, 9, 10, 6, 20);
    x.book(5, 60, 10, 7, 20);
    x.book(0, 60, 11, 8, 20);
    x.book(-1, -1, 11, 9, 20);
    x.book(0, 9, 11, 30, 40);
    due.is("year 201", x.keep(0, 0, 201), -1);
    due.is("year -1", x.keep(0, 0, -1), -1);
    due.is("no first", x.keep(2, 0, 0), -2);
    due.is("no second", x.keep(0, 2, 0), -2);
    due.is("text -1", x.keep(-1, 0, 0), -2);
    due.is("no text, wrong year", x.keep(2, 0, 201), -1);
    due.is("not kept", x.how(0), -1);
    due.is("count(5) without", x.count(5), 0);
    due.is("on without", x.on(0, 0, 0), -1);
    due.is("keep", x.keep(0, 1, 11), 4);
    x.shelf(1, 0, 29, 39);
    int[] how = {4, 4, 3, 4, 1, 0, 2};
    for (int book = 0; book < 7; book++) {
      due.is("how(" + book + ")", x.how(book), how[book]);
    }
    due.is("how(7)", x.how(7), -1);
    due.is("how(-1)", x.how(-1), -1);
    due.is("count(5)", x.count(5), 3);
    due.is("on 0", x.on(0, 0, 0), 1);
    due.is("on 1", x.on(0, 0, 1), 0);
    due.is("on 2", x.on(0, 0, 2), -1);
    due.is("on -1", x.on(0, 0, -1), -1);
    due.is("on shelf 5", x.on(0, 5, 0), 3);
    due.is("on an empty one", x.on(1, 0, 0), -1);
    due.is("on bay 9", x.on(9, 0, 0), -1);
    due.is("on shelf 6", x.on(0, 6, 0), -1);
    due.is("on bay -1", x.on(-1, 5, 0), -1);
    due.is("free", x.free(0, 0), 91);
    due.is("free 5", x.free(0, 5), 93);
    due.is("free, empty", x.free(1, 0), 29);
    due.is("free bay 9", x.free(9, 0), NOTHING);
    due.is("free shelf 6", x.free(0, 6), NOTHING);
    due.is("free shelf -1", x.free(1, -1), NOTHING);
    x.shelf(1, 0, 29, 40);
    due.is("stands then", x.how(6), 4);
    due.is("free below 0", x.free(1, 0), -1);
    x.fact(6, 3, 2);
    due.is("free then", x.free(1, 0), 27);
    x.bay(1, 1);
    x.fact(6, 5, 2);
    due.is("hole on the other side", x.how(6), 2);
    x.bay(1, 2);
    due.is("hole on its side", x.how(6), 4);
    due.is("refused", x.keep(0, 0, 300), -1);
    due.is("kept still", x.how(6), 4);
    due.is("keep another", x.keep(0, 0, 0), 4);
    due.is("how then", x.how(6), 3);
    x.fact(0, 2, 199);
    x.fact(6, 2, 0);
    due.is("keep by years", x.keep(1, 0, 199), 3);
    due.is("by the second", x.how(0), 4);
    due.is("by the first", x.how(6), 3);
    due.is("by the first, lower", x.how(2), 4);
    due.is("on of the first", x.on(1, 0, 0), 1);
  }

  private static void gaps() {
    due.part("21 gap");
    RedMarks x = new RedMarks();
    Due.text(x, BY_MARK);
    int[] numbers = {99, 4, 5, 7, 2, 4};
    for (int number : numbers) {
      x.book(0, number, 0, 1, 1);
    }
    x.book(1, 1, 0, 1, 1);
    x.book(1, 2, 0, 1, 1);
    due.is("none kept", x.gap(0, 0, -1, 0), -1);
    x.keep(0, 0, 0);
    due.is("gaps", x.gap(0, 0, -1, 0), 4);
    due.is("places", x.gap(0, 0, -1, 1), 94);
    int[] firsts = {1, 3, 6, 8};
    int[] longs = {1, 1, 1, 91};
    for (int i = 0; i < 4; i++) {
      due.is("first of " + i, x.gap(0, 0, i, 0), firsts[i]);
      due.is("places of " + i, x.gap(0, 0, i, 1), longs[i]);
    }
    due.is("i 4", x.gap(0, 0, 4, 0), -1);
    due.is("i -2", x.gap(0, 0, -2, 0), -1);
    due.is("what 2", x.gap(0, 0, 0, 2), -1);
    due.is("what -1", x.gap(0, 0, 0, -1), -1);
    due.is("what 2 of NONE", x.gap(0, 0, -1, 2), -1);
    Due.text(x, "bay 1;shelf 2;place number");
    x.keep(1, 1, 0);
    due.is("gaps of shelf 2", x.gap(1, 2, -1, 0), 3);
    due.is("places of shelf 2", x.gap(1, 2, -1, 1), 93);
    due.is("last of shelf 2", x.gap(1, 2, 2, 0), 8);
    due.is("gaps of shelf 0", x.gap(1, 0, -1, 0), 0);
    due.is("last of bay 0", x.gap(0, 4, 0, 0), -1);
    x.keep(0, 0, 0);
    due.is("no gaps", x.gap(1, 0, -1, 0), 0);
    due.is("no places", x.gap(1, 0, -1, 1), 0);
    due.is("no gap 0", x.gap(1, 0, 0, 0), -1);
    due.is("empty shelf", x.gap(2, 0, -1, 0), 0);
    due.is("bay 9", x.gap(9, 0, -1, 0), -1);
    due.is("bay -1", x.gap(-1, 0, -1, 0), -1);
    due.is("shelf 6", x.gap(0, 6, -1, 0), -1);
  }

  private static void sets() {
    due.part("22 could");
    RedMarks x = new RedMarks();
    Due.text(x, BY_MARK);
    x.book(0, 1, 0, 10, 1);
    x.fact(0, 9, 1);
    x.line(1, 0, 10, 0, 1);
    int[] thicks = {3, 5, 5, 8};
    for (int thick : thicks) {
      x.line(900, 7, thick, 8, 8);
    }
    due.is("none kept", x.could(0, 0, 400, -1), -1);
    x.keep(0, 0, 0);
    due.is("lines with a book", x.match(2), 1);
    x.shelf(0, 0, 18, 40);
    due.is("free", x.free(0, 0), 8);
    // {}, 3, 5, 5, 8, 3+5, 3+5
    due.is("all", x.could(0, 0, 400, -1), 7);
    due.is("slack 8", x.could(0, 0, 8, -1), 7);
    due.is("slack 7", x.could(0, 0, 7, -1), 6);
    due.is("slack 3", x.could(0, 0, 3, -1), 5);
    due.is("slack 2", x.could(0, 0, 2, -1), 3);
    due.is("slack 0", x.could(0, 0, 0, -1), 3);
    due.is("with a line", x.could(0, 0, 400, 1), 3);
    due.is("with another", x.could(0, 0, 400, 2), 2);
    due.is("with the thickest", x.could(0, 0, 400, 4), 1);
    due.is("with it exactly", x.could(0, 0, 0, 1), 2);
    due.is("not missing", x.could(0, 0, 400, 0), 0);
    due.is("not missing, with room for it", x.could(3, 3, 400, 0), 0);
    due.is("no line", x.could(0, 0, 400, 5), -1);
    due.is("line -2", x.could(0, 0, 400, -2), -1);
    due.is("slack 401", x.could(0, 0, 401, -1), -1);
    due.is("slack -1", x.could(0, 0, -1, -1), -1);
    due.is("bay 9", x.could(9, 0, 0, -1), -1);
    due.is("shelf 6", x.could(0, 6, 0, -1), -1);
    x.shelf(0, 0, 10, 40);
    due.is("free 0", x.could(0, 0, 0, -1), 1);
    x.shelf(0, 0, 9, 40);
    due.is("free -1", x.could(0, 0, 400, -1), 0);
    due.is("empty shelf", x.could(3, 3, 400, -1), 16);
    due.is("empty shelf, a line", x.could(3, 3, 400, 3), 8);
    due.is("empty shelf, less", x.could(3, 3, 79, -1), 1);
    manySets();
  }

  private static void manySets() {
    RedMarks x = new RedMarks();
    Due.text(x, BY_MARK);
    x.keep(0, 0, 0);
    for (int n = 0; n < 12; n++) {
      x.line(1, 1, 30, -1, -1);
    }
    x.shelf(8, 5, 400, 40);
    due.is("all sets", x.could(8, 5, 400, -1), 4096);
    due.is("with one", x.could(8, 5, 400, 11), 2048);
    due.is("the whole alone", x.could(8, 5, 40, -1), 1);
    due.is("less than the whole", x.could(8, 5, 39, -1), 0);
    x.shelf(8, 5, 359, 40);
    due.is("all but the whole", x.could(8, 5, 400, -1), 4095);
  }

  private static void lines() {
    due.part("23 line, 24 list");
    RedMarks x = new RedMarks();
    due.is("word 1000", x.line(1000, 0, 1, 0, 1), -1);
    due.is("word -1", x.line(-1, 0, 1, 0, 1), -1);
    due.is("subject 8", x.line(0, 8, 1, 0, 1), -1);
    due.is("subject -1", x.line(0, -1, 1, 0, 1), -1);
    due.is("thick 0", x.line(0, 0, 0, 0, 1), -1);
    due.is("thick 31", x.line(0, 0, 31, 0, 1), -1);
    due.is("letter 9", x.line(0, 0, 1, 9, 1), -1);
    due.is("number 0", x.line(0, 0, 1, 0, 0), -1);
    due.is("number 100", x.line(0, 0, 1, 0, 100), -1);
    due.is("half", x.line(0, 0, 1, -1, 1), -1);
    due.is("other half", x.line(0, 0, 1, 1, -1), -1);
    due.is("least", x.line(0, 0, 1, 0, 1), 0);
    due.is("most", x.line(999, 7, 30, 8, 99), 1);
    for (int n = 2; n < 12; n++) {
      due.is("line " + n, x.line(0, 0, 1, -1, -1), n);
    }
    due.is("13th", x.line(0, 0, 1, -1, -1), -5);
    due.is("13th, wrong", x.line(1000, 0, 1, -1, -1), -1);
    due.is("count(3)", x.count(3), 12);
    due.is("list", x.list(0, 3), 0);
    due.is("list again", x.list(0, 1), 3);
    due.is("list 4", x.list(0, 4), -1);
    due.is("list -1", x.list(0, -1), -1);
    due.is("as it was", x.list(0, 0), 1);
    due.is("line 11", x.list(11, 0), 0);
    due.is("line 12", x.list(12, 0), -2);
    due.is("line -1", x.list(-1, 0), -2);
    due.is("line 12, list 4", x.list(12, 4), -1);
  }

  private static void fighting() {
    due.part("25 fights");
    RedMarks x = new RedMarks();
    due.is("none", x.fights(0, 0), 0);
    x.line(1, 0, 1, 0, 1);
    x.line(2, 0, 1, 0, 1);
    x.line(1, 0, 1, 0, 2);
    x.line(1, 0, 1, -1, -1);
    x.line(1, 0, 1, 1, 1);
    x.line(1, 0, 1, 0, 1);
    due.is("all of one list", x.fights(0, 0), 0);
    x.list(0, 1);
    // 0 with 1 (same mark), 2, 4 (same word); not with 3 (without a mark), 5 (the same)
    due.is("how many", x.fights(0, 7), 3);
    int[] highs = {1, 2, 4};
    for (int i = 0; i < 3; i++) {
      due.is("low " + i, x.fights(1, i), 0);
      due.is("high " + i, x.fights(2, i), highs[i]);
    }
    due.is("i 3", x.fights(1, 3), -1);
    due.is("i -1", x.fights(2, -1), -1);
    due.is("what 3", x.fights(3, 0), -1);
    due.is("what -1", x.fights(-1, 0), -1);
    x.list(4, 2);
    // 4 with 0, 2, 5 now too; 2 and 1 have neither the same mark nor word
    due.is("how many", x.fights(0, 0), 5);
    due.is("low of the last", x.fights(1, 4), 4);
    due.is("high of the last", x.fights(2, 4), 5);
    due.is("low of the fourth", x.fights(1, 3), 2);
  }

  private static void wanted() {
    due.part("26 wanting");
    RedMarks x = new RedMarks();
    due.is("none", x.wanting(0, 0, 0), 0);
    due.is("none has it", x.wanting(0, 2, 0), 0);
    due.is("no first", x.wanting(0, 1, 0), -1);
    x.book(8, 5, 0, 1, 1);
    due.is("of the first", x.wanting(8, 0, 0), 4);
    x.mark(0, 8, 2);
    x.book(8, 4, 0, 1, 1);
    due.is("the first has one", x.wanting(8, 0, 0), 2);
    due.is("the second of them", x.wanting(8, 1, 1), 3);
    x.mark(0, 8, 5);
    x.mark(1, -1, -1);
    due.is("one has it", x.wanting(8, 2, 0), 1);
    x.book(8, 3, 0, 1, 1);
    x.book(8, 5, 0, 1, 1);
    due.is("none has another", x.wanting(7, 2, 0), 0);
    x.book(7, 99, 0, 1, 1);
    x.book(6, 1, 0, 1, 1);
    x.book(-1, -1, 0, 1, 1);
    x.book(5, 2, 0, 1, 1);
    due.is("how many", x.wanting(8, 0, 9), 3);
    int[] want = {1, 2, 4, -1};
    for (int i = 0; i < 4; i++) {
      due.is("the " + i, x.wanting(8, 1, i), want[i]);
    }
    due.is("i -1", x.wanting(8, 1, -1), -1);
    due.is("books", x.wanting(8, 2, 0), 3);
    due.is("98", x.wanting(7, 0, 0), 98);
    due.is("98th", x.wanting(7, 1, 97), 98);
    due.is("of 1", x.wanting(6, 0, 0), 0);
    due.is("letter 9", x.wanting(9, 0, 0), -1);
    due.is("letter -1", x.wanting(-1, 2, 0), -1);
    due.is("what 3", x.wanting(8, 3, 0), -1);
    due.is("what -1", x.wanting(8, -1, 0), -1);
  }

  private static void running() {
    due.part("27 runs");
    RedMarks x = new RedMarks();
    due.is("without books", x.runs(0), 0);
    int[] numbers = {9, 5, 5, 7, 3, 8, 1};
    int[] holes = {1, 2, 1, 1, 0, 1, 2};
    int[] heights = {20, 10, 30, 10, 40, 40, 0};
    int[] letters = {0, 0, 0, 0, 0, 1, 0};
    for (int n = 0; n < 7; n++) {
      x.book(letters[n], numbers[n], 0, 1, 1);
      x.fact(n, 5, holes[n]);
      x.fact(n, 6, heights[n]);
    }
    // 9/20 over 5/10, 7/10, 1/0: 3; under 5/30: -1; 5/10: over 1/0: 1, with 5/30 and 7/10: 0
    // 5/30: over 7/10: -1, over 1/0: 1; 7/10 over 1/0: 1
    due.is("runs(0)", x.runs(0), 4);
    due.is("runs(1)", x.runs(1), 0);
    due.is("runs(8)", x.runs(8), 0);
    due.is("runs(9)", x.runs(9), NOTHING);
    due.is("runs(-1)", x.runs(-1), NOTHING);
    x.fact(0, 6, 0);
    // 9/0: under 5/10, 5/30, 7/10: -3, as 1/0: 0; the others 2
    due.is("runs down", x.runs(0), -1);
    x.mark(5, -1, -1);
    due.is("without a mark", x.runs(0), -1);
  }

  private static void binders() {
    due.part("28 binder, 29 bound");
    RedMarks x = new RedMarks();
    int[] came = {0, 49, 50, 60, 61, 199};
    for (int n = 0; n < 6; n++) {
      x.book(-1, -1, came[n], 1, 1);
      x.fact(n, 7, 9);
    }
    x.book(0, 1, 0, 1, 1);
    due.is("at first", x.bound(0), 0);
    due.is("at first, last", x.bound(5), 0);
    due.is("binder", x.binder(9, 50, 60), 4);
    int[] want = {-1, -1, 0, 0, 1, 1, 0};
    for (int n = 0; n < 7; n++) {
      due.is("bound " + n, x.bound(n), want[n]);
    }
    due.is("bound 7", x.bound(7), NOTHING);
    due.is("bound -1", x.bound(-1), NOTHING);
    due.is("star 10", x.binder(10, 0, 1), -1);
    due.is("star -1", x.binder(-1, 0, 1), -1);
    due.is("from -1", x.binder(0, -1, 1), -1);
    due.is("to 200", x.binder(0, 0, 200), -1);
    due.is("from 200", x.binder(0, 200, 200), -1);
    due.is("to ahead of from", x.binder(9, 2, 1), -1);
    due.is("as it was", x.bound(0), -1);
    due.is("one year", x.binder(9, 199, 199), 5);
    due.is("whole", x.binder(9, 0, 199), 0);
    due.is("star 0", x.binder(0, 1, 1), 1);
    x.fact(0, 7, 0);
    due.is("by its star", x.bound(0), -1);
  }

  private static void near() {
    due.part("30 nearest");
    RedMarks x = new RedMarks();
    Due.text(x, BY_MARK + ";shelf star");
    x.book(0, 1, 0, 10, 1);
    x.book(1, 1, 0, 10, 1);
    x.book(1, 2, 0, 10, 1);
    x.book(2, 1, 0, 10, 1);
    x.book(-1, -1, 0, 30, 1);
    int[] damps = {5, 2, 8, 6, 5};
    for (int n = 0; n < 5; n++) {
      x.fact(n, 8, damps[n]);
    }
    x.fact(2, 7, 3);
    due.is("none kept", x.nearest(4, 0), -1);
    x.keep(0, 0, 0);
    due.is("same damp", x.nearest(4, 0), 0);
    due.is("difference", x.nearest(4, 3), 0);
    due.is("it stands", x.nearest(0, 0), -1);
    due.is("it stands, what 3", x.nearest(0, 3), -1);
    x.shelf(0, 0, 39, 40);
    due.is("no room there", x.nearest(4, 0), 3);
    due.is("difference 1", x.nearest(4, 3), 1);
    due.is("bay", x.nearest(4, 1), 2);
    due.is("shelf", x.nearest(4, 2), 0);
    x.shelf(0, 0, 40, 40);
    due.is("just room", x.nearest(4, 0), 0);
    x.fact(0, 8, 0);
    x.fact(3, 8, 0);
    due.is("of alike ones with its star, and the lowest", x.nearest(4, 0), 1);
    x.fact(4, 7, 3);
    due.is("the star", x.nearest(4, 0), 2);
    due.is("its bay", x.nearest(4, 1), 1);
    due.is("its shelf", x.nearest(4, 2), 3);
    due.is("its difference", x.nearest(4, 3), 3);
    x.fact(4, 7, 8);
    due.is("no star: the lowest", x.nearest(4, 0), 1);
    x.fact(1, 8, 1);
    due.is("damp ahead of star", x.nearest(4, 0), 2);
    due.is("no book", x.nearest(5, 0), -1);
    due.is("book -1", x.nearest(-1, 0), -1);
    due.is("what 4", x.nearest(4, 4), -1);
    due.is("what -1", x.nearest(4, -1), -1);
    for (int bay = 0; bay < 3; bay++) {
      x.shelf(bay, 0, 29, 40);
      x.shelf(bay, 3, 29, 40);
    }
    due.is("room nowhere", x.nearest(4, 0), -1);
    due.is("room nowhere, bay", x.nearest(4, 1), -1);
    due.is("room nowhere, difference", x.nearest(4, 3), -1);
  }

  private static void closeOnes() {
    due.part("31 close");
    RedMarks x = new RedMarks();
    Due.text(x, BY_MARK);
    int[] numbers = {90, 1, 50, 2, 60, 1};
    int[] damps = {3, 5, 2, 4, 5, 5};
    for (int n = 0; n < 6; n++) {
      x.book(0, numbers[n], 0, 1, 1);
      x.fact(n, 8, damps[n]);
    }
    x.book(8, 1, 0, 1, 1);
    x.book(8, 9, 0, 1, 1);
    due.is("none kept", x.close(0, 0), -1);
    due.is("none kept, all", x.close(-1, -1), -1);
    x.keep(0, 0, 0);
    // by places: 5 4 2 5 3
    due.is("one pair", x.close(0, 0), 1);
    due.is("alike", x.close(8, 0), 1);
    due.is("all", x.close(-1, -1), 2);
    due.is("empty", x.close(1, 0), 0);
    x.fact(2, 8, 4);
    // 5 4 4 5 3
    due.is("three pairs", x.close(0, 0), 3);
    due.is("all", x.close(-1, -1), 4);
    Due.text(x, "bay 8;shelf 5;place number");
    x.keep(1, 1, 0);
    due.is("shelf 5", x.close(8, 5), 2);
    due.is("all there", x.close(-1, -1), 2);
    due.is("not there", x.close(7, 1), 0);
    due.is("half", x.close(-1, 0), -1);
    due.is("other half", x.close(0, -1), -1);
    due.is("bay 9", x.close(9, 0), -1);
    due.is("shelf 6", x.close(0, 6), -1);
  }

  private static void agreeing() {
    due.part("32 agree");
    RedMarks x = new RedMarks();
    x.book(3, 9, 0, 10, 1);
    x.book(-1, -1, 0, 10, 1);
    x.fact(0, 9, 500);
    x.fact(0, 10, 5);
    int[][] lines = {
        {500, 5, 10, 3, 9, 17}, {500, 5, 12, 3, 9, 17}, {500, 5, 13, 3, 9, 15}, {500, 5, 8, 3, 9, 17},
        {500, 5, 7, 3, 9, 15}, {500, 4, 7, -1, -1, 8}, {501, 5, 30, 3, 8, -3}, {501, 4, 30, 2, 9, -6},
        {501, 4, 30, 3, 9, 4}, {501, 4, 30, -1, -1, 0}, {500, 5, 10, 0, 1, 7}, {0, 0, 11, 0, 1, -4}};
    for (int n = 0; n < lines.length; n++) {
      x.line(lines[n][0], lines[n][1], lines[n][2], lines[n][3], lines[n][4]);
      due.is("agree " + n, x.agree(n, 0), lines[n][5]);
    }
    due.is("without a mark", x.agree(11, 1), 13);
    due.is("no line", x.agree(12, 0), NOTHING);
    due.is("line -1", x.agree(-1, 0), NOTHING);
    due.is("no book", x.agree(0, 2), NOTHING);
    due.is("book -1", x.agree(0, -1), NOTHING);
  }

  private static void matching() {
    due.part("33 match, 34 matched");
    RedMarks x = new RedMarks();
    x.book(0, 1, 0, 1, 1);
    x.book(0, 2, 0, 1, 1);
    x.fact(0, 9, 1);
    x.fact(1, 9, 1);
    // 8 of the word for both, 4 and 2 more for the first: greedy would take 14 and 2, not 10 and 13
    x.line(1, 7, 1, 0, 1);
    due.is("sum", x.match(0), 14);
    due.is("ways", x.match(1), 1);
    due.is("lines", x.match(2), 1);
    due.is("first", x.matched(0, 0), 0);
    due.is("sure", x.matched(0, 1), 2);
    due.is("none", x.matched(1, 0), -1);
    due.is("surely none", x.matched(1, 1), 2);
    x.line(2, 0, 30, -1, -1);
    // line 1 agrees with each by 3
    due.is("sum", x.match(0), 17);
    due.is("ways", x.match(1), 1);
    due.is("second", x.matched(1, 0), 1);
    due.is("what 3", x.match(3), -1);
    due.is("what -1", x.match(-1), -1);
    due.is("matched what 2", x.matched(0, 2), -1);
    due.is("matched what -1", x.matched(0, -1), -1);
    due.is("matched no book", x.matched(2, 0), -1);
    due.is("matched book -1", x.matched(-1, 1), -1);
    x.fact(1, 10, 7);
    due.is("sum with another subject", x.match(0), 14);
    due.is("ways: 1 to 1 by 0, or none", x.match(1), 2);
    due.is("the lower line ahead of none", x.matched(1, 0), 1);
    due.is("not sure", x.matched(1, 1), 1);
    due.is("sure still", x.matched(0, 1), 2);
    due.is("lines", x.match(2), 2);
    x.fact(1, 9, 2);
    due.is("sum with the word", x.match(0), 22);
    due.is("ways", x.match(1), 1);
    x.fact(1, 3, 30);
    due.is("sum with thick", x.match(0), 24);
    x.mark(1, 0, 1);
    due.is("sum with the mark", x.match(0), 24);
    x.mark(0, -1, -1);
    due.is("sum without it", x.match(0), 20);
    x.book(0, 1, 0, 1, 1);
    due.is("a book more", x.match(0), 20);
    x.fact(2, 9, 1);
    due.is("its word", x.match(0), 24);
    due.is("the first has none then", x.matched(0, 0), -1);
    due.is("the third has it", x.matched(2, 0), 0);
    better();
  }

  /** The greatest pair is not in the best match. */
  private static void better() {
    RedMarks x = new RedMarks();
    x.book(-1, -1, 0, 1, 1);
    x.book(-1, -1, 0, 30, 1);
    x.fact(0, 9, 1);
    x.fact(0, 10, 1);
    x.fact(1, 9, 1);
    x.line(1, 1, 2, -1, -1);
    x.line(1, 1, 9, -1, -1);
    // 0: 13, 11; 1: 8, 8
    due.is("sum", x.match(0), 21);
    due.is("first", x.matched(0, 0), 0);
    x.line(5, 1, 2, -1, -1);
    // book 0 with line 2 by 5, then book 1 with line 0 or 1: 13
    due.is("sum", x.match(0), 21);
    due.is("lines", x.match(2), 2);
    x.fact(1, 10, 2);
    x.line(6, 2, 30, -1, -1);
    x.line(7, 2, 30, -1, -1);
    due.is("sum with others", x.match(0), 21);
    due.is("ways", x.match(1), 1);
    x.fact(1, 9, 2);
    due.is("sum by others", x.match(0), 18);
    due.is("ways by others", x.match(1), 2);
    due.is("lower one", x.matched(1, 0), 3);
    due.is("not sure", x.matched(1, 1), 1);
  }

  private static void manyMatches() {
    due.part("33 many matches");
    RedMarks x = new RedMarks();
    for (int n = 0; n < 12; n++) {
      x.line(1, 1, 30, -1, -1);
    }
    for (int n = 0; n < 5; n++) {
      x.book(-1, -1, 0, 1, 1);
    }
    // agree by 0: sum over k of C(12, k) * 5! / (5 - k)!
    due.is("sum", x.match(0), 0);
    due.is("ways", x.match(1), 1 + 60 + 66 * 20 + 220 * 60 + 495 * 120 + 792 * 120);
    due.is("lines", x.match(2), 5);
    due.is("line of the last", x.matched(4, 0), 4);
    due.is("not sure", x.matched(4, 1), 1);
    for (int n = 5; n < 40; n++) {
      x.book(-1, -1, 0, 1, 1);
    }
    due.is("a milliard at most", x.match(1), 1000000000);
    due.is("lines", x.match(2), 12);
    due.is("line of 11", x.matched(11, 0), 11);
    due.is("none of 12", x.matched(12, 0), -1);
    due.is("not sure", x.matched(39, 1), 1);
    for (int n = 0; n < 40; n++) {
      x.fact(n, 9, 1);
    }
    due.is("sum", x.match(0), 96);
    due.is("a milliard at most", x.match(1), 1000000000);
    x = new RedMarks();
    for (int n = 0; n < 9; n++) {
      x.line(1, 1, 1, -1, -1);
      x.book(-1, -1, 0, 1, 1);
    }
    due.is("9!", x.match(1), 362880);
    due.is("sum", x.match(0), 18);
    x.line(1, 1, 1, -1, -1);
    due.is("10!", x.match(1), 3628800);
    x.line(1, 1, 1, -1, -1);
    x.line(1, 1, 1, -1, -1);
    due.is("12! / 3!", x.match(1), 79833600);
    x.book(-1, -1, 0, 1, 1);
    due.is("12! / 2!", x.match(1), 239500800);
    x.book(-1, -1, 0, 1, 1);
    due.is("12!", x.match(1), 479001600);
    x.book(-1, -1, 0, 1, 1);
    due.is("12! again", x.match(1), 479001600);
    x.book(-1, -1, 0, 1, 1);
    due.is("13!", x.match(1), 1000000000);
  }

  private static void sureOnes() {
    due.part("34 sure");
    RedMarks x = new RedMarks();
    for (int n = 0; n < 4; n++) {
      x.book(0, n + 1, 0, 1, 1);
      x.fact(n, 9, n < 2 ? 5 : 7);
    }
    x.line(5, 1, 30, -1, -1);
    x.line(5, 1, 30, -1, -1);
    x.line(7, 1, 30, 0, 4);
    x.line(9, 1, 30, 8, 1);
    due.is("sum", x.match(0), 28);
    due.is("ways", x.match(1), 2);
    int[] lines = {0, 1, -1, 2};
    int[] sure = {1, 1, 2, 2};
    for (int n = 0; n < 4; n++) {
      due.is("line of " + n, x.matched(n, 0), lines[n]);
      due.is("sure of " + n, x.matched(n, 1), sure[n]);
    }
    x.mark(2, -1, -1);
    // line 3 agrees with book 2 by 0 now
    due.is("ways", x.match(1), 4);
    due.is("line 3", x.matched(2, 0), 3);
    due.is("not sure of it", x.matched(2, 1), 1);
    due.is("missing then", x.match(2), 4);
  }

  private static void ourOnes() {
    due.part("35 ours");
    RedMarks x = new RedMarks();
    x.book(0, 1, 5, 1, 1);
    x.book(-1, -1, 100, 1, 1);
    x.book(0, 1, 0, 1, 1);
    x.book(0, 1, 2, 1, 1);
    Due.text(x, "ours came*10");
    Due.text(x, "ours 0-came");
    Due.text(x, "ours 20 if came=5");
    Due.text(x, "ours 1000+came");
    Due.text(x, "ours 1000+1-came/5");
    due.is("a thousand", x.ours(4, 0, -1), 1000);
    due.is("one more", x.ours(4, 2, -1), 1000);
    due.is("less", x.ours(4, 1, -1), 981);
    due.is("own", x.ours(0, 0, -1), 50);
    due.is("1000", x.ours(0, 1, -1), 1000);
    due.is("above", x.ours(3, 0, -1), 1000);
    due.is("below", x.ours(1, 0, -1), 0);
    due.is("without", x.ours(2, 1, -1), 0);
    due.is("both", x.ours(0, 0, 1), 4);
    due.is("both, the other way", x.ours(0, 1, 0), 95);
    due.is("both alike", x.ours(3, 0, 1), 50);
    due.is("all", x.ours(0, 0, 2), 100);
    due.is("nothing", x.ours(0, 2, 0), 0);
    due.is("0 by 0", x.ours(1, 0, 1), 0);
    due.is("cut", x.ours(0, 3, 0), 28);
    due.is("no text", x.ours(5, 0, -1), -1);
    due.is("text -1", x.ours(-1, 0, -1), -1);
    due.is("no book", x.ours(0, 4, -1), -1);
    due.is("book -1", x.ours(0, -1, -1), -1);
    due.is("no other", x.ours(0, 0, 4), -1);
    due.is("other -2", x.ours(0, 0, -2), -1);
  }

  private static void falseOnes() {
    due.part("36 untrue");
    RedMarks x = new RedMarks();
    x.book(0, 1, 5, 1, 1);
    x.book(-1, -1, 100, 1, 1);
    x.book(0, 1, 0, 1, 1);
    Due.text(x, "false if came>4;false if came=200");
    Due.text(x, "bay 0");
    Due.text(x, "false");
    Due.text(x, "false if 10/came=2");
    due.is("how many", x.untrue(0, 0, 9), 2);
    due.is("first", x.untrue(0, 1, 0), 0);
    due.is("second", x.untrue(0, 1, 1), 1);
    due.is("third", x.untrue(0, 1, 2), -1);
    due.is("i -1", x.untrue(0, 1, -1), -1);
    due.is("without", x.untrue(1, 0, 0), 0);
    due.is("all", x.untrue(2, 0, 0), 3);
    due.is("broken", x.untrue(3, 0, 0), 1);
    due.is("no text", x.untrue(4, 0, 0), -1);
    due.is("text -1", x.untrue(-1, 0, 0), -1);
    due.is("what 2", x.untrue(0, 2, 0), -1);
    due.is("what -1", x.untrue(0, -1, 0), -1);
  }

  private static void twins() {
    due.part("37 twice");
    RedMarks x = new RedMarks();
    int[] letters = {1, 2, 1, -1, -1, 2, 1, 1};
    int[] numbers = {5, 5, 5, -1, -1, 5, 5, 6};
    for (int n = 0; n < 8; n++) {
      x.book(letters[n], numbers[n], 0, 1, 1);
    }
    x.book(1, 6, 0, 1, 1);
    due.is("how many", x.twice(0, 6), 5);
    due.is("how many, i 0", x.twice(0, 0), 5);
    int[][] pairs = {{0, 2}, {0, 6}, {1, 5}, {2, 6}, {7, 8}};
    for (int i = 0; i < 5; i++) {
      due.is("low " + i, x.twice(1, i), pairs[i][0]);
      due.is("high " + i, x.twice(2, i), pairs[i][1]);
    }
    due.is("i 5", x.twice(1, 5), -1);
    due.is("i -1", x.twice(2, -1), -1);
    due.is("what 3", x.twice(3, 0), -1);
    due.is("what -1", x.twice(-1, 0), -1);
  }

  private static void stacks() {
    due.part("38 stack, 39 clear");
    RedMarks x = new RedMarks();
    due.is("no book", x.stack(0), -2);
    for (int n = 0; n < 11; n++) {
      x.book(-1, -1, 0, 1, 1);
    }
    due.is("book -1", x.stack(-1), -2);
    due.is("book 40", x.stack(40), -2);
    for (int n = 0; n < 9; n++) {
      due.is("stack " + n, x.stack(10 - n), n + 1);
    }
    due.is("full", x.stack(0), -5);
    due.is("full, in it", x.stack(5), -3);
    due.is("full, no book", x.stack(11), -2);
    due.is("count(4)", x.count(4), 9);
    due.is("clear", x.clear(), 9);
    due.is("clear again", x.clear(), 0);
    due.is("count(4)", x.count(4), 0);
    due.is("after clear", x.stack(5), 1);
    due.is("in it", x.stack(5), -3);
    due.is("status", x.status(), -3);
    x.clear();
    due.is("clear is no such call", x.status(), -3);
    due.is("count(8)", x.count(8), 4);
    due.is("count(9)", x.count(9), 2);
    due.is("count(10)", x.count(10), 1);
  }

  private static void stackRows() {
    due.part("40 beside");
    RedMarks x = new RedMarks();
    int[] damps = {5, 1, 9, 5, 3, 7, 0, 2, 8};
    for (int n = 0; n < 9; n++) {
      x.book(-1, -1, 0, 1, 1);
      x.fact(n, 8, damps[n]);
    }
    due.is("empty", x.beside(-1), -1);
    due.is("empty 0", x.beside(0), -1);
    x.stack(4);
    due.is("one", x.beside(-1), 0);
    due.is("one 0", x.beside(0), 4);
    due.is("one 1", x.beside(1), -1);
    x.stack(0);
    x.stack(2);
    // 3 5 9, not 9 5 3: the lower number ahead
    due.is("three", x.beside(-1), 6);
    due.is("first", x.beside(0), 2);
    due.is("second", x.beside(1), 0);
    due.is("third", x.beside(2), 4);
    for (int n = 8; n >= 0; n--) {
      x.stack(n);
    }
    due.is("nine", x.beside(-1), 9);
    int[] row = {2, 8, 5, 0, 3, 4, 7, 1, 6};
    for (int i = 0; i < 9; i++) {
      due.is("nine " + i, x.beside(i), row[i]);
    }
    due.is("i 9", x.beside(9), -1);
    due.is("i -2", x.beside(-2), -1);
    x.fact(0, 7, 1);
    due.is("star", x.beside(-1), 13);
    // at an end: 5 .. 9 apart 4 and 2, or within 2 and 2
    due.is("star first", x.beside(0), 2);
    x.fact(0, 8, 9);
    due.is("damp", x.beside(-1), 11);
    due.is("damp first", x.beside(0), 0);
    x.clear();
    due.is("cleared", x.beside(-1), -1);
    x.stack(7);
    x.stack(3);
    due.is("lower first", x.beside(0), 3);
    x.fact(7, 7, 4);
    due.is("2 for stars", x.beside(-1), 5);
  }

  private static void houses() {
    due.part("41 house, 42 expect, 43 next");
    RedMarks x = new RedMarks();
    due.is("none", x.next(), -1);
    due.is("house 12", x.house(12, 1, 1, 1), -1);
    due.is("house -1", x.house(-1, 1, 1, 1), -1);
    due.is("all 5001", x.house(0, 5001, 1, 1), -1);
    due.is("all -1", x.house(0, -1, 0, 1), -1);
    due.is("looked -1", x.house(0, 1, -1, 1), -1);
    due.is("looked 2", x.house(0, 1, 2, 1), -1);
    due.is("cost 0", x.house(0, 1, 1, 0), -1);
    due.is("cost 101", x.house(0, 1, 1, 101), -1);
    due.is("without looked", x.expect(0), -1);
    due.is("all", x.house(0, 5000, 5000, 100), 0);
    due.is("all looked at", x.expect(0), 0);
    due.is("next, nothing to be found", x.next(), 0);
    due.is("none", x.house(0, 0, 0, 1), 0);
    due.is("next", x.next(), -1);
    for (int n = 0; n < 7; n++) {
      x.book(-1, -1, 0, 1, 1);
      x.fact(n, 11, n < 3 ? 11 : 5);
    }
    x.house(11, 100, 7, 1);
    due.is("cut", x.expect(11), 3 * 93 * 100 / 7);
    x.house(5, 107, 14, 2);
    due.is("another", x.expect(5), 4 * 93 * 100 / 14);
    due.is("next", x.next(), 11);
    x.house(11, 100, 7, 3);
    // 279 / 21 against 372 / 28: alike
    due.is("alike: the lowest", x.next(), 5);
    x.house(5, 107, 14, 3);
    due.is("cost", x.next(), 11);
    x.fact(0, 11, 5);
    // 186 / 21 against 465 / 42
    due.is("found", x.next(), 5);
    due.is("found less", x.expect(11), 2 * 93 * 100 / 7);
    x.house(0, 5000, 1, 1);
    due.is("nothing found", x.expect(0), 0);
    due.is("nothing found, not next", x.next(), 5);
    due.is("expect 12", x.expect(12), -1);
    due.is("expect -1", x.expect(-1), -1);
    for (int n = 0; n < 7; n++) {
      x.fact(n, 11, 0);
    }
    due.is("much", x.expect(0), 7 * 4999 * 100);
    exactly();
  }

  /** Fractions that hundredths, or cut ones, do not tell apart. */
  private static void exactly() {
    RedMarks x = new RedMarks();
    for (int n = 0; n < 40; n++) {
      x.book(-1, -1, 0, 1, 1);
      x.fact(n, 11, n % 2);
    }
    x.house(0, 5000, 4998, 100);
    x.house(1, 4999, 4997, 100);
    due.is("20 * 2 / 499800 against 20 * 2 / 499700", x.next(), 1);
    due.is("expect 0", x.expect(0), 0);
    x.house(0, 5000, 1, 99);
    x.house(1, 5000, 1, 100);
    due.is("cost 99", x.next(), 0);
    x = new RedMarks();
    x.house(7, 1, 1, 1);
    due.is("looked at one for one", x.next(), 7);
  }

  private static void leftOnes() {
    due.part("44 left");
    RedMarks x = new RedMarks();
    due.is("none", x.left(0), -1);
    due.is("none at least", x.left(1), 0);
    for (int n = 0; n < 7; n++) {
      x.book(0, n + 1, 0, 1, 1);
    }
    x.book(-1, -1, 0, 1, 1);
    due.is("without lines", x.left(0), -1);
    due.is("at least", x.left(1), 7);
    x.line(5, 7, 30, 8, 1);
    due.is("one without a mark", x.left(0), 7);
    x.mark(7, 8, 2);
    due.is("no line has a book", x.left(0), -1);
    due.is("at least", x.left(1), 9);
    x.line(5, 7, 30, 0, 1);
    x.line(5, 7, 30, 0, 2);
    x.line(5, 7, 30, 8, 3);
    x.line(5, 7, 30, 8, 4);
    due.is("by counts", x.left(0), 8 * 5 / 2);
    due.is("at least", x.left(1), 8 + 5 - 2);
    x.line(5, 7, 30, 0, 3);
    x.line(5, 7, 30, 8, 5);
    due.is("cut", x.left(0), 8 * 7 / 3);
    due.is("what 2", x.left(2), -1);
    due.is("what -1", x.left(-1), -1);
  }

  private static void growing() {
    due.part("45 grew");
    RedMarks x = new RedMarks();
    int[] came = {0, 10, 11, 12, 199, 12};
    for (int n = 0; n < 6; n++) {
      x.book(-1, -1, came[n], 1, 1);
      x.fact(n, 10, n % 2);
    }
    due.is("one year", x.grew(12, 1, -1), 2);
    due.is("two", x.grew(10, 2, -1), 2);
    due.is("three", x.grew(10, 3, -1), 4);
    due.is("of 1", x.grew(10, 3, 1), 3);
    due.is("of 7", x.grew(0, 200, 7), 0);
    due.is("all", x.grew(0, 200, -1), 6);
    due.is("all but the last", x.grew(0, 199, -1), 5);
    due.is("last", x.grew(199, 1, -1), 1);
    due.is("beyond", x.grew(199, 200, -1), 1);
    due.is("year 200", x.grew(200, 1, -1), -1);
    due.is("year -1", x.grew(-1, 1, -1), -1);
    due.is("years 0", x.grew(0, 0, -1), -1);
    due.is("years 201", x.grew(0, 201, -1), -1);
    due.is("subject 8", x.grew(0, 1, 8), -1);
    due.is("subject -2", x.grew(0, 1, -2), -1);
  }

  private static void worlds() {
    due.part("46 scatter, 47 went, 48 together");
    RedMarks x = new RedMarks();
    Due.text(x, BY_MARK);
    x.keep(0, 0, 0);
    due.is("no world", x.together(0, 0), -1);
    due.is("empty world", x.scatter(0, 100), 0);
    due.is("none on it", x.together(0, 0), 0);
    for (int n = 0; n < 30; n++) {
      x.book(n % 3, n / 3 + 1, 0, 1, 1);
    }
    due.is("came behind it", x.went(0), -1);
    due.is("seed -1", x.scatter(-1, 0), -1);
    due.is("seed 1000001", x.scatter(1000001, 0), -1);
    due.is("burn -1", x.scatter(0, -1), -1);
    due.is("burn 101", x.scatter(0, 101), -1);
    int[][] worlds = {{0, 0}, {1000000, 50}, {5, 37}, {77777, 100}, {999999, 1}};
    for (int[] w : worlds) {
      int[] houses = Due.drawn(w[0], w[1], 30);
      int burnt = 0;
      for (int n = 0; n < 30; n++) {
        burnt += houses[n] == -1 ? 1 : 0;
      }
      due.is("scatter " + w[0], x.scatter(w[0], w[1]), burnt);
      for (int n = 0; n < 30; n++) {
        due.is("went " + n, x.went(n), houses[n]);
      }
      for (int bay = 0; bay < 3; bay++) {
        int shared = 0;
        for (int n = bay; n < 30; n += 3) {
          boolean found = false;
          for (int m = bay; m < 30; m += 3) {
            found |= m != n && houses[n] >= 0 && houses[n] == houses[m];
          }
          shared += found ? 1 : 0;
        }
        due.is("together " + bay, x.together(bay, 0), shared);
      }
    }
    due.is("went 30", x.went(30), -1);
    due.is("went -1", x.went(-1), -1);
    due.is("bay 9", x.together(9, 0), -1);
    due.is("shelf 6", x.together(0, 6), -1);
    due.is("empty", x.together(3, 0), 0);
    Due.text(x, "bay 2;shelf 3;place number+letter*20");
    x.keep(1, 1, 0);
    x.scatter(5, 0);
    due.is("all on shelf 3", x.together(2, 3), 30 - alone(Due.drawn(5, 0, 30)));
    due.is("none on another", x.together(1, 3), 0);
    due.is("a book more", x.book(0, 50, 0, 1, 1), 30);
    due.is("went", x.went(30), -1);
    x = new RedMarks();
    x.scatter(1, 1);
    due.is("none kept", x.together(0, 0), -1);
  }

  private static int alone(int[] houses) {
    int alone = 0;
    for (int house : houses) {
      alone += java.util.Arrays.stream(houses).filter(h -> h == house).count() == 1 ? 1 : 0;
    }
    return alone;
  }

  private static void imagesKeep() {
    due.part("49 image, 50 back");
    RedMarks x = new RedMarks();
    due.is("image 2", x.image(2), -1);
    due.is("image -1", x.image(-1), -1);
    due.is("back 2", x.back(2), -1);
    due.is("back -1", x.back(-1), -1);
    due.is("back 1", x.back(1), -2);
    due.is("image 1 of nothing", x.image(1), 0);
    due.is("back 0", x.back(0), -2);
    Due.text(x, BY_MARK);
    x.book(1, 4, 50, 4, 30);
    x.book(1, 6, 50, 4, 30);
    x.line(9, 0, 4, 1, 4);
    x.list(0, 2);
    x.bay(1, 2);
    x.shelf(1, 0, 77, 33);
    x.binder(0, 60, 70);
    x.stack(1);
    x.house(0, 20, 10, 3);
    x.house(1, 20, 10, 1);
    x.keep(0, 0, 0);
    due.is("row", x.beside(0), 1);
    due.is("image 0", x.image(0), 0);
    Due.text(x, "bay 3;place 1");
    x.book(1, 7, 50, 4, 30);
    x.fact(0, 8, 7);
    x.fact(1, 4, 34);
    x.mark(0, -1, -1);
    x.line(9, 0, 4, 1, 6);
    x.list(0, 3);
    x.bay(1, 1);
    x.shelf(1, 0, 88, 40);
    x.binder(0, 0, 1);
    x.stack(0);
    x.house(0, 30, 15, 1);
    x.house(1, 30, 15, 100);
    x.keep(1, 1, 7);
    x.list(1, 3);
    due.is("row", x.beside(0), 0);
    x.clear();
    x.stack(0);
    due.is("row of another", x.beside(0), 0);
    due.is("back 0", x.back(0), 0);
    due.is("row then", x.beside(0), 1);
    due.is("no more in it", x.beside(1), -1);
    due.is("books", x.count(0), 2);
    due.is("marks", x.count(1), 2);
    due.is("texts", x.count(2), 1);
    due.is("lines", x.count(3), 1);
    due.is("stack", x.count(4), 1);
    due.is("in it", x.stack(1), -3);
    due.is("stand", x.count(5), 2);
    due.is("damp", x.of(0, 8), 0);
    due.is("tall", x.of(1, 4), 30);
    due.is("letter", x.of(0, 0), 1);
    due.is("list", x.list(0, 2), 2);
    due.is("bay", x.bay(1, 2), 2);
    due.is("free", x.free(1, 0), 69);
    due.is("gap", x.gap(1, 0, 0, 1), 3);
    due.is("bound", x.bound(0), -1);
    x.fact(0, 2, 65);
    x.fact(1, 2, 71);
    due.is("bound within", x.bound(0), 0);
    due.is("bound behind", x.bound(1), 1);
    x.fact(0, 2, 50);
    x.fact(1, 2, 50);
    due.is("expect", x.expect(0), 200);
    x.fact(0, 11, 1);
    due.is("next by costs", x.next(), 1);
    x.fact(0, 11, 0);
    due.is("agree", x.agree(0, 0), 9);
    due.is("a line more", x.line(5, 5, 5, -1, -1), 1);
    due.is("its list", x.list(1, 1), 0);
    due.is("high", x.fact(0, 4, 34), 30);
    due.is("not right", x.how(0), 2);
    due.is("back 0 again", x.back(0), 0);
    due.is("lines in the first", x.match(2), 1);
    due.is("tall", x.of(0, 4), 30);
    due.is("no text 1", x.stand(1, 1, 0), -1);
    due.is("another text", Due.text(x, "bay 5;place 2"), 1);
    due.is("its seat", x.seat(1, 0, 0), 5);
    due.is("another book", x.book(-1, -1, 0, 1, 1), 2);
    for (int f = 5; f < 12; f++) {
      due.is("new fact " + f, x.of(2, f), 0);
      x.fact(2, f, 1);
    }
    x.line(5, 5, 5, -1, -1);
    due.is("a new list", x.list(1, 3), 0);
    x.back(0);
    x.book(-1, -1, 0, 1, 1);
    x.line(5, 5, 5, -1, -1);
    for (int f = 5; f < 12; f++) {
      due.is("new fact " + f + " again", x.of(2, f), 0);
    }
    due.is("a new list again", x.list(1, 3), 0);
    due.is("back 1", x.back(1), 0);
    due.is("nothing", x.count(0), 0);
    due.is("none kept", x.how(0), -1);
    due.is("none kept, on", x.on(1, 0, 0), -1);
    due.is("none kept, free", x.free(1, 0), NOTHING);
    due.is("none kept, gap", x.gap(1, 0, -1, 0), -1);
    due.is("none kept, could", x.could(1, 0, 400, -1), -1);
    due.is("none kept, close", x.close(1, 0), -1);
    due.is("none stands", x.count(5), 0);
    due.is("no texts", x.best(0), -1);
    due.is("no room there", x.bay(1, 0), 0);
    due.is("back 0", x.back(0), 0);
    due.is("books", x.count(0), 2);
    due.is("how", x.how(1), 4);
  }

  private static void imagesLeave() {
    due.part("V what images do not keep");
    RedMarks x = new RedMarks();
    x.book(0, 1, 0, 1, 1);
    x.scatter(5, 0);
    due.is("went", x.went(0), 4);
    Due.text(x, "bay");
    Due.tape(x, "\u0009");
    x.row();
    x.feed(0, 0, 0, 0, 0);
    x.image(0);
    x.scatter(5, 100);
    x.end(7);
    x.book(0, 2, 0, 1, 1);
    Due.text(x, "");
    x.end(0);
    Due.text(x, "bay 1 1");
    Due.tape(x, "\u0009\u0009\u0009\u0009\u0009\u0009");
    x.row();
    x.feed(0, 0, 0, 0, 0);
    x.end(3);
    x.stack(77);
    due.is("back", x.back(0), 0);
    due.is("tape", x.count(6), 3);
    due.is("fault", x.fault(), 6);
    due.is("rebound", x.rebound(), 2);
    due.is("world", x.went(0), -1);
    due.is("refused by -2", x.count(8), 1);
    due.is("status", x.status(), 0);
    x.scatter(5, 0);
    x.book(0, 2, 0, 1, 1);
    x.scatter(5, 0);
    due.is("second", x.went(1), 4);
    x.back(0);
    due.is("not there now, but in the world", x.went(1), 4);
    due.is("not in the world", x.went(2), -1);
    imagesOfTexts();
    imagesLeaveWorld();
  }

  /** The latest world has the books that there were when it was made, whatever has been gone back to since. */
  private static void imagesLeaveWorld() {
    due.part("V the latest world behind a back");
    RedMarks x = new RedMarks();
    Due.text(x, BY_MARK);
    x.keep(0, 0, 0);
    x.image(0);
    for (int n = 0; n < 40; n++) {
      x.book(0, n + 1, 0, 1, 1);
    }
    x.image(1);
    int[] houses = Due.drawn(31, 40, 40);
    x.scatter(31, 40);
    x.back(0);
    due.is("no books", x.count(0), 0);
    for (int n = 0; n < 40; n++) {
      due.is("went " + n, x.went(n), houses[n]);
    }
    due.is("went 40", x.went(40), -1);
    due.is("went -1", x.went(-1), -1);
    due.is("went far below", x.went(Integer.MIN_VALUE), -1);
    due.is("went far above", x.went(Integer.MAX_VALUE), -1);
    due.is("none on the shelf", x.together(0, 0), 0);
    x.back(1);
    for (int n = 0; n < 40; n++) {
      due.is("went again " + n, x.went(n), houses[n]);
    }
    due.is("together again", x.together(0, 0), sharing(houses));
    x.back(0);
    due.is("a world without books", x.scatter(31, 40), 0);
    x.back(1);
    for (int n = 0; n < 40; n++) {
      due.is("not in that world " + n, x.went(n), -1);
    }
    due.is("none together", x.together(0, 0), 0);
  }

  private static int sharing(int[] houses) {
    int[] there = new int[12];
    java.util.Arrays.stream(houses).filter(house -> house >= 0).forEach(house -> there[house]++);
    return java.util.Arrays.stream(there).filter(n -> n >= 2).sum();
  }

  /** Each image has the texts that stood then, though they had the same numbers. */
  private static void imagesOfTexts() {
    RedMarks x = new RedMarks();
    x.book(0, 1, 0, 1, 1);
    x.image(0);
    Due.text(x, "bay 1;place 1");
    due.is("first", x.seat(0, 0, 0), 1);
    x.image(1);
    x.back(0);
    due.is("none", x.seat(0, 0, 0), -1);
    Due.text(x, "bay 2;place 1");
    due.is("second", x.seat(0, 0, 0), 2);
    x.back(1);
    due.is("first again", x.seat(0, 0, 0), 1);
    x.image(0);
    for (int n = 1; n < 8; n++) {
      Due.text(x, "bay damp;place " + n);
      due.is("bay by text " + n, x.seat(n, 0, 0), 0);
    }
    x.keep(0, 0, 0);
    due.is("on", x.on(1, 0, 0), 0);
    x.back(0);
    due.is("none kept, but a book", x.on(1, 0, 0), -1);
    due.is("none kept, none free", x.free(1, 0), NOTHING);
    due.is("none kept, none nearest", x.nearest(0, 0), -1);
    x.fact(0, 8, 3);
    for (int n = 1; n < 8; n++) {
      Due.text(x, "bay damp+1;place " + n);
      due.is("bay by another text " + n, x.seat(n, 0, 0), 4);
    }
    x.image(0);
    x.fact(0, 8, 4);
    for (int n = 1; n < 8; n++) {
      due.is("bay by text " + n + ", damp 4", x.seat(n, 0, 0), 5);
    }
    x.back(0);
    for (int n = 1; n < 8; n++) {
      due.is("bay by text " + n + ", damp 3 again", x.seat(n, 0, 0), 4);
    }
    x.back(1);
    x.stack(0);
    due.is("row", x.beside(0), 0);
    x.back(1);
    due.is("no row", x.beside(0), -1);
    x.line(0, 0, 1, -1, -1);
    due.is("sum", x.match(0), 13);
    x.back(1);
    due.is("no sum", x.match(0), 0);
    x.line(7, 7, 30, -1, -1);
    x.line(7, 7, 30, -1, -1);
    x.image(0);
    x.back(1);
    x.line(0, 0, 1, 0, 1);
    due.is("another line", x.match(0), 17);
    x.back(0);
    due.is("lines", x.count(3), 2);
    due.is("lines as they were", x.match(0), 0);
    x.image(0);
    x.book(0, 1, 0, 1, 1);
    x.image(0);
    x.back(0);
    due.is("an image anew", x.count(0), 2);
  }

  /** Every way to be refused: what is answered is also told and counted. */
  private static void refusals() {
    due.part("51 count, 52 status of each refusal");
    RedMarks x = new RedMarks();
    refused(x, x.fact(0, 1, 0), -1);
    refused(x, x.fact(0, 2, 0), -2);
    refused(x, x.mark(0, 9, 0), -1);
    refused(x, x.mark(0, 1, 1), -2);
    refused(x, x.bay(9, 0), -1);
    refused(x, x.shelf(9, 0, 1, 1), -1);
    refused(x, x.row(), -6);
    refused(x, x.text(), -6);
    refused(x, x.keep(0, 0, 201), -1);
    refused(x, x.keep(0, 0, 0), -2);
    refused(x, x.line(1000, 0, 1, 1, 1), -1);
    refused(x, x.list(0, 4), -1);
    refused(x, x.list(0, 0), -2);
    refused(x, x.binder(10, 0, 0), -1);
    refused(x, x.stack(0), -2);
    refused(x, x.house(12, 0, 0, 1), -1);
    refused(x, x.scatter(0, 101), -1);
    refused(x, x.image(2), -1);
    refused(x, x.back(2), -1);
    refused(x, x.back(0), -2);
    refused(x, x.book(0, 1, 0, 0, 0), -1);
    for (int n = 0; n < 40; n++) {
      x.book(0, 1, 0, 1, 1);
      x.line(0, 0, 1, 1, 1);
      x.stack(n);
      Due.text(x, "false");
    }
    refused(x, x.book(0, 1, 0, 1, 1), -5);
    refused(x, x.line(0, 0, 1, 1, 1), -5);
    refused(x, x.stack(39), -5);
    refused(x, x.stack(0), -3);
    refused(x, x.text(), -5);
  }

  private static int counted(RedMarks x, int why) {
    int[] whats = {-1, 7, 8, 9, -1, 10, 11};
    return x.count(whats[-why]);
  }

  private static int latelyRefused = 0;

  private static void refused(RedMarks x, int answer, int why) {
    due.is("answer", answer, why);
    due.is("status", x.status(), why);
    int all = 0;
    for (int each : new int[] {-1, -2, -3, -5, -6}) {
      all += counted(x, each);
    }
    int before = counted(x, why);
    x.image(1);
    due.is("fine then", x.status(), 0);
    due.is("counted still", counted(x, why), before);
    due.holds("counted " + all + " with this one", all > latelyRefused);
    latelyRefused = all;
  }

  private static void statuses() {
    due.part("51 count, 52 status");
    RedMarks x = new RedMarks();
    due.is("book", x.book(9, 0, 0, 0, 0), x.status());
    due.is("fact", x.fact(0, 2, 0), x.status());
    due.is("fact", x.status(), -2);
    x.book(0, 1, 0, 1, 1);
    due.is("book fine", x.status(), 0);
    due.is("mark", x.mark(0, 9, 9), x.status());
    due.is("mark", x.status(), -1);
    x.fact(0, 2, 9);
    due.is("fact fine", x.status(), 0);
    due.is("bay", x.bay(9, 9), x.status());
    x.mark(0, 0, 1);
    due.is("mark fine", x.status(), 0);
    due.is("shelf", x.shelf(9, 9, 9, 9), x.status());
    x.bay(0, 0);
    due.is("bay fine", x.status(), 0);
    due.is("row", x.row(), x.status());
    due.is("row", x.status(), -6);
    x.shelf(0, 0, 100, 40);
    due.is("shelf fine", x.status(), 0);
    due.is("text", x.text(), x.status());
    due.is("text", x.status(), -6);
    Due.tape(x, "\u0000\u0001\u0000\u0001\u0001");
    due.is("a tape does not matter", x.status(), -6);
    x.row();
    due.is("row fine", x.status(), 0);
    due.is("keep", x.keep(0, 0, 201), x.status());
    Due.text(x, BY_MARK);
    due.is("text fine", x.status(), 0);
    due.is("line", x.line(1000, 0, 1, 0, 1), x.status());
    x.keep(0, 0, 0);
    due.is("keep fine", x.status(), 0);
    due.is("list", x.list(0, 0), x.status());
    x.line(0, 0, 1, 0, 1);
    due.is("line fine", x.status(), 0);
    due.is("binder", x.binder(10, 0, 0), x.status());
    x.list(0, 0);
    due.is("list fine", x.status(), 0);
    due.is("stack", x.stack(9), x.status());
    x.binder(0, 0, 0);
    due.is("binder fine", x.status(), 0);
    due.is("house", x.house(12, 0, 0, 1), x.status());
    x.stack(0);
    due.is("stack fine", x.status(), 0);
    due.is("scatter", x.scatter(-1, 0), x.status());
    x.house(0, 0, 0, 1);
    due.is("house fine", x.status(), 0);
    due.is("image", x.image(2), x.status());
    x.scatter(0, 0);
    due.is("scatter fine", x.status(), 0);
    due.is("back", x.back(0), x.status());
    due.is("back", x.status(), -2);
    x.image(0);
    due.is("image fine", x.status(), 0);
    x.back(1);
    x.back(0);
    due.is("back fine", x.status(), 0);
    x.stack(0);
    int[] others = {x.of(9, 9), x.feed(0, 0, 0, 0, 0), x.end(0), x.end(5), x.rebound(), x.fault(),
        x.seat(9, 9, 9), x.stand(9, 9, 9), x.best(9), x.how(9), x.on(9, 9, 9), x.free(9, 9),
        x.gap(9, 9, 9, 9), x.could(9, 9, 9, 9), x.fights(9, 9), x.wanting(9, 9, 9), x.runs(9),
        x.bound(9), x.nearest(9, 9), x.close(9, 9), x.agree(9, 9), x.match(9), x.matched(9, 9),
        x.ours(9, 9, 9), x.untrue(9, 9, 9), x.twice(9, 9), x.clear(), x.beside(9), x.expect(99),
        x.next(), x.left(9), x.grew(9, 999, 9), x.went(9), x.together(9, 9), x.count(99)};
    due.is("other calls: " + others.length, x.status(), -3);
    due.is("by -1", x.count(7), 10);
    due.is("by -2", x.count(8), 5);
    due.is("by -3", x.count(9), 1);
    due.is("by -5", x.count(10), 0);
    due.is("by -6", x.count(11), 2);
  }
}
