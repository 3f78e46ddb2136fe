/** The edges of promises 10 to 14, each sentence by itself: THE TAPE and the terms. */
public final class TermEdgeTest {
  private static final int LEAST = Integer.MIN_VALUE;
  private static final int MOST = Integer.MAX_VALUE;

  public static void main(String[] args) throws Exception { Due.each(TermEdgeTest.class); }

  private static String times(int n, String s) { return s.repeat(n); }

  /** Two rooms with a wall each and two pictures in the store. */
  private static GalleryWalls two() {
    GalleryWalls x = Due.rooms(2);
    x.wall(0, 500, 300, 99);
    x.wall(1, 500, 300, 99);
    x.picture(20, 20, 5, 1, 1900, 0, 0);
    x.picture(20, 20, 5, 1, 1900, 0, 0);
    return x;
  }

  private static GalleryWalls taped(int signs) {
    GalleryWalls x = Twins.whole();
    for (int i = 2; i < 25; i++) x.sign(0x31313131);
    x.end(signs);
    return x;
  }

  // ---- promise 10: sign

  static void promise10_theHighestByteComesFirst() {
    GalleryWalls x = two();
    Due.is("4 signs", 4, x.sign('7' << 24 | '-' << 16 | '7' << 8 | ';'));
    Due.is("8 signs", 8, x.sign('1' << 24 | '=' << 16 | '0' << 8 | '1'));
    Due.is("a term", 0, x.term(0, 0));
    Due.is("7-7 is 0", 0, x.why(0, 0, 0));
  }

  static void promise10_bytesAbove127AreSignsToo() {
    GalleryWalls x = two();
    Due.is("of -1", 4, x.sign(-1));
    Due.is("sign 255 can't stand there", -1, x.term(0, 0));
    Due.is("of the least", 4, x.sign(LEAST));
    Due.is("nor 128", -1, x.term(0, 0));
    Due.is("the lowest byte", 4, x.sign('1' << 24 | '+' << 16 | '1' << 8 | 0xe9));
    Due.is("nor 233", -4, x.term(0, 0));
    Due.is("a byte whose lowest bits are a digit's", 4, x.sign(('1' | 128) << 24));
    Due.is("nor 177", -1, x.term(0, 0));
  }

  static void promise10_signs0AreSignsToo() {
    GalleryWalls x = two();
    Due.is("of 0", 4, x.sign(0));
    Due.is("count", 4, x.count(11));
    Due.is("sign 0 can't stand there", -1, x.term(0, 0));
  }

  static void promise10_asManyAs100() {
    GalleryWalls x = new GalleryWalls();
    for (int i = 1; i <= 25; i++) Due.is("sign", 4 * i, x.sign(i));
    Due.is("count", 100, x.count(11));
    x.end(96);
    Due.is("96 and 4", 100, x.sign(0));
  }

  static void promise10_moreThan100AreRefused() {
    for (int there : new int[] {97, 98, 99, 100})
      Twins.refused(() -> taped(there), there + " and 4", -1, x -> x.sign(0x31313131));
  }

  static void promise10_comesBehindWhatEndLeft() {
    GalleryWalls x = two();
    x.sign('1' << 24 | '+' << 16 | '?' << 8 | '?');
    x.end(2);
    Due.is("2 and 4", 6, x.sign('2' << 24 | '=' << 16 | '3' << 8 | '?'));
    x.end(5);
    Due.is("1+2=3", 0, x.term(0, 0));
    Due.is("it holds", -2, x.why(0, 0, 0));
  }

  // ---- promise 11: end

  static void promise11_none() {
    GalleryWalls x = new GalleryWalls();
    Due.yes("of none", x.end(0));
    x.sign(0x31313131);
    Due.yes("of four", x.end(0));
    Due.is("count", 0, x.count(11));
  }

  static void promise11_all() {
    GalleryWalls x = taped(100);
    Due.yes("end(100)", x.end(100));
    Due.is("count", 100, x.count(11));
  }

  static void promise11_theFirstOnes() {
    GalleryWalls x = two();
    Due.tape(x, "7;0;");
    Due.yes("end(1)", x.end(1));
    Due.is("count", 1, x.count(11));
    Due.is("7", 0, x.term(0, 0));
    Due.is("it holds", -2, x.why(0, 0, 0));
  }

  static void promise11_notSoMany() {
    for (int n : new int[] {9, 10, 100, 101, MOST}) Twins.no("end " + n + " of 8", x -> x.end(n));
    Twins.no(() -> taped(100), "end 101 of 100", x -> x.end(101));
    Twins.no(() -> taped(0), "end 1 of 0", x -> x.end(1));
  }

  static void promise11_below0() {
    for (int n : new int[] {-1, LEAST}) Twins.no("end " + n, x -> x.end(n));
  }

  // ---- promise 12: term

  static void promise12_numbersFrom0OnOfAllPictures() {
    GalleryWalls x = two();
    Due.is("first", 0, Due.term(x, "1", 1, 0));
    Due.is("second", 1, Due.term(x, "1", 0, 0));
    Due.is("none", -1, Due.term(x, "", 0, 0));
    Due.is("third", 2, Due.term(x, "1", 1, 400));
    Due.is("count", 3, x.count(4));
  }

  static void promise12_theTapeIsEmptyByEachAnswer() {
    GalleryWalls x = two();
    Due.is("a term", 0, Due.term(x, "1", 0, 0));
    Due.is("empty by a number", 0, x.count(11));
    Due.is("none", -2, Due.term(x, "1?", 0, 0));
    Due.is("empty by a place", 0, x.count(11));
    Due.is("ends too early", -3, Due.term(x, "1+", 0, 0));
    Due.is("empty by its end", 0, x.count(11));
    Due.is("more than 60", -61, Due.term(x, times(30, "1+") + "1", 0, 0));
    Due.is("empty by 60", 0, x.count(11));
    Due.is("no such PICTURE", -100, Due.term(x, "1", 2, 0));
    Due.is("empty by no PICTURE", 0, x.count(11));
    Due.is("no such NIGHT", -100, Due.term(x, "1", 0, 401));
    Due.is("empty by no NIGHT", 0, x.count(11));
  }

  /** What the whole gallery answers behind a refused term is what it answers without its tape. */
  private static void noTerm(String what, int want, String text, int picture, int night) {
    Twins.refused(() -> {
      GalleryWalls x = Twins.whole();
      x.end(0);
      return x;
    }, what, want, x -> Due.term(x, text, picture, night));
  }

  static void promise12_aRefusedOneChangesNothingButTheTape() {
    noTerm("a wrong sign", -2, "1?", 4, 0);
    noTerm("ends too early", -3, "1+", 4, 0);
    noTerm("more than 60", -61, times(61, "!"), 4, 0);
    noTerm("a wrong sign behind a good EXPRESSION", -5, "1;1+?", 4, 0);
  }

  static void promise12_aRefusedOneLeavesNothingForTheNext() {
    String[] refused = {"1*", "0*", "1-", "1&", "(", "((1", "1<", "!", "-", "12", "1;", "1;(0|", "(1?", "12345", "123)", times(60, "(") + "1"};
    for (String t : refused) {
      GalleryWalls x = two();
      Due.term(x, t, 0, 0);
      int terms = x.count(4);
      for (String next : new String[] {"7", "(7)", "7;7", "1<2", "7777"}) {
        Due.is("'" + next + "' behind '" + t + "'", terms++, Due.term(x, next, 0, 0));
        Due.is("'" + next + "' behind '" + t + "' holds", -2, x.why(0, 0, 0));
      }
      Due.is("'7)' behind '" + t + "'", -2, Due.term(x, "7)", 0, 0));
      Due.term(x, t, 0, 0);
      Due.is("'r1' behind '" + t + "'", -2, Due.term(x, "r1", 0, 0));
      Due.is("'77777' behind '" + t + "'", -5, Due.term(x, "77777", 0, 0));
      Due.is("'' behind '" + t + "'", -1, Due.term(x, "", 0, 0));
    }
  }

  static void promise12_picturesThatAreNotThere() {
    for (int p : new int[] {-1, 7, 24, LEAST, MOST}) noTerm("of " + p, -100, "1", p, 0);
  }

  static void promise12_nightsFrom0To400() {
    GalleryWalls x = two();
    Due.is("from 0", 0, Due.term(x, "1", 0, 0));
    Due.is("from 400", 1, Due.term(x, "1", 0, 400));
    for (int night : new int[] {-1, 401, LEAST, MOST}) noTerm("from " + night, -100, "1", 4, night);
  }

  static void promise12_asManyAs30() {
    GalleryWalls x = two();
    for (int i = 0; i < 30; i++) Due.is("term", i, Due.term(x, "1", i % 2, 0));
    Due.is("count", 30, x.count(4));
  }

  static void promise12_moreThan30AreRefused() {
    for (String text : new String[] {"1", "", "?"})
      Twins.refused(TermEdgeTest::thirty, "'" + text + "' is term 31", -100, x -> Due.term(x, text, 4, 0));
  }

  private static GalleryWalls thirty() {
    GalleryWalls x = Twins.whole();
    x.end(0);
    for (int i = 2; i < 30; i++) {
      x.sign(0x31313131);
      x.term(5, 400);
    }
    return x;
  }

  static void promise12_pictureAndNightAreAskedAheadOfTheText() {
    GalleryWalls x = two();
    Due.is("no such PICTURE", -100, Due.term(x, "?", 2, 0));
    Due.is("no such NIGHT", -100, Due.term(x, "", 0, -1));
    Due.is("the text", -1, Due.term(x, "?", 0, 0));
  }

  /** Of a new house: -1 - p, or 0 if it is a term. */
  private static void text(String text, int want) { Due.is("'" + text + "'", want, Due.term(two(), text, 0, 0)); }

  static void promise12_anEmptyOneEndsTooEarly() { text("", -1); }

  static void promise12_oneSignIsATerm() {
    for (String t : new String[] {"0", "9", "r", "a"}) text(t, 0);
  }

  static void promise12_asManyAs60Signs() {
    text(times(29, "1+") + "1", 0);
    text(times(29, "1+") + "12", 0);
    text(times(59, "-") + "1", 0);
    text(times(29, "(") + "11" + times(29, ")"), 0);
    text(times(30, "1;").substring(0, 59), 0);
  }

  static void promise12_all60SignsCount() {
    alone(times(59, "!") + "7", 0);
    alone(times(59, "!") + "0", -2);
    alone(times(59, "-") + "0", 0);
    alone(times(58, "-") + "10", -2);
    alone(times(28, "1;") + "!!!0", -2);
    alone(times(28, "1;") + "!!!7", 28);
    alone(times(29, "(") + "00" + times(29, ")"), 0);
    alone(times(29, "(") + "01" + times(29, ")"), -2);
    alone(times(29, "1-") + "-1", -2);
    alone(times(28, "0|") + "!1|0", 0);
  }

  static void promise12_moreThan60IfTheFirstOnesCouldGoOnOrEnd() {
    text(times(29, "1+") + "123", -61);
    text(times(29, "1+") + "12+", -61);
    text(times(30, "1+") + "1", -61);
    text(times(61, "("), -61);
    text(times(100, "-"), -61);
    text(times(29, "1+") + "12?", -61);
    text(times(29, "1+") + "12" + times(40, "?"), -61);
  }

  static void promise12_moreThan60WithAWrongSignAmongTheFirst() {
    text("?" + times(60, "1"), -1);
    text(times(59, "-") + "?1", -60);
    text(times(58, "-") + "?11", -59);
    text(times(20, "12345"), -5);
  }

  static void promise12_60SignsThatEndTooEarly() {
    text(times(60, "-"), -61);
    text(times(60, "("), -61);
    text(times(30, "1;"), -61);
    text("(" + times(59, "1+").substring(0, 59), -61);
  }

  static void promise12_endsTooEarly() {
    text("1+", -3);
    text("!", -2);
    text("-", -2);
    text("(", -2);
    text("(1", -3);
    text("((1)", -5);
    text("1;", -3);
    text("1<", -3);
    text("r&", -3);
    text("(r|", -4);
  }

  static void promise12_numbersOf1To4Digits() {
    text("1", 0);
    text("9999", 0);
    text("0000", 0);
    text("12345", -5);
    text("00000", -5);
    text("1+12345", -7);
    text("9999+9999", 0);
    text("(12345)", -6);
    text("-12345", -6);
  }

  static void promise12_thingsDoNotStandBesideEachOther() {
    text("rr", -2);
    text("r1", -2);
    text("1r", -2);
    text("1(", -2);
    text("r(", -2);
    text("(1)(1)", -4);
    text("(1)1", -4);
    text("(1)r", -4);
    text("1!", -2);
    text("r!1", -2);
  }

  static void promise12_theLetters() {
    String letters = "rwplnsbkftya";
    for (char c = 'a'; c <= 'z'; c++) text("" + c, letters.indexOf(c) >= 0 ? 0 : -1);
    for (char c = 'A'; c <= 'Z'; c++) text("" + c, -1);
  }

  static void promise12_theSigns() {
    for (char c = 0; c < 256; c++) {
      boolean thing = "rwplnsbkftya0123456789".indexOf(c) >= 0;
      text("" + c, thing ? 0 : "(!-".indexOf(c) >= 0 ? -2 : -1);
      boolean digit = c >= '0' && c <= '9';
      text("1" + c, digit ? 0 : "|&<>=+-*/%;".indexOf(c) >= 0 ? -3 : -2);
      text("(r" + c, c == ')' ? 0 : "|&<>=+-*/%".indexOf(c) >= 0 ? -4 : -3);
    }
  }

  static void promise12_noBlanks() {
    text(" 1", -1);
    text("1 ", -2);
    text("1 +1", -2);
    text("1+ 1", -3);
    text("( 1)", -2);
    text("1; 1", -3);
  }

  static void promise12_expressionsBetweenSemicolons() {
    text("1;1", 0);
    text(";1", -1);
    text("1;;1", -3);
    text("1;1;", -5);
    text("(1;1)", -3);
    text("1+;1", -3);
    text("!;1", -2);
  }

  static void promise12_comparisonsNotOneBehindTheOther() {
    for (String a : new String[] {"<", ">", "="})
      for (String b : new String[] {"<", ">", "="}) {
        text("r" + a + "1" + b + "2", -4);
        text("r" + a + "1+1" + b + "2", -6);
        text("r" + a + "1*2" + b + "2", -6);
        text("r" + a + "-1" + b + "2", -5);
        text("(r" + a + "1" + b + "2)", -5);
        text("(r" + a + "1)" + b + "2", 0);
        text("r" + a + "(1" + b + "2)", 0);
        text("r" + a + "1&1" + b + "2", 0);
        text("r" + a + "1|1" + b + "2", 0);
        text("r" + a + "1;1" + b + "2", 0);
        text("(r" + a + "1)" + b + "2" + a + "1", -8);
        text("r" + a + "(1" + b + "2)" + a + "1", -8);
        text("1&r" + a + "1" + b + "2", -6);
      }
  }

  static void promise12_operatorsWantAThing() {
    for (String o : new String[] {"|", "&", "<", ">", "=", "+", "*", "/", "%"}) {
      text(o + "1", -1);
      text("1" + o + o + "1", -3);
      text("1" + o + ")", -3);
      text("(" + o + "1)", -2);
      text("1" + o + "!1", 0);
      text("1" + o + "-1", 0);
      text("1" + o + "(1)", 0);
    }
    text("1--1", 0);
    text("1---1", 0);
    text("1!=1", -2);
  }

  static void promise12_anyManyAheadOfAThing() {
    text("!!!!1", 0);
    text("----1", 0);
    text("!-!-r", 0);
    text("-!(1)", 0);
    text("1-!-!-1", 0);
    text("!+1", -2);
    text("-*1", -2);
  }

  static void promise12_brackets() {
    text("()", -2);
    text(")", -1);
    text("1)", -2);
    text("(1))", -4);
    text("((1)+1)", 0);
    text("(1", -3);
    text("!(1)", 0);
    text(")1", -1);
  }

  // ---- promise 13: force

  static void promise13_none() {
    GalleryWalls x = two();
    Due.is("no TERM", -1, x.force(0));
    Due.term(x, "1", 1, 0);
    Due.is("one of another", -1, x.force(0));
    Due.is("the other's", 0, x.force(1));
  }

  static void promise13_noneSuch() {
    for (int p : new int[] {-1, 7, 24, LEAST, MOST}) Twins.refused("force " + p, -1, x -> x.force(p));
  }

  static void promise13_fromItsNightOn() {
    GalleryWalls x = two();
    Due.term(x, "1", 0, 2);
    x.step(1);
    Due.is("the NIGHT ahead", -1, x.force(0));
    x.step(1);
    Due.is("its NIGHT", 0, x.force(0));
    x.step(1);
    Due.is("the NIGHT behind", 0, x.force(0));
  }

  static void promise13_theGreatestNightNotAboveNow() {
    GalleryWalls x = two();
    Due.term(x, "1", 0, 1);
    Due.term(x, "1", 0, 3);
    Due.term(x, "1", 0, 2);
    Due.term(x, "1", 0, 0);
    int[] want = {3, 0, 2, 1, 1};
    for (int night = 0; night < want.length; night++) {
      Due.is("NIGHT " + night, want[night], x.force(0));
      x.step(1);
    }
  }

  static void promise13_ofEqualOnesTheOneToldLast() {
    GalleryWalls x = two();
    Due.term(x, "1", 0, 0);
    Due.term(x, "0", 0, 0);
    Due.is("the last", 1, x.force(0));
    Due.term(x, "1", 1, 0);
    Due.is("of this PICTURE", 1, x.force(0));
    Due.term(x, "1", 0, 0);
    Due.is("told last", 3, x.force(0));
  }

  static void promise13_atTheLastNight() {
    GalleryWalls x = two();
    Due.term(x, "1", 0, 400);
    Due.term(x, "1", 0, 399);
    for (int i = 0; i < 3; i++) x.step(100);
    x.step(99);
    Due.is("NIGHT 399", 1, x.force(0));
    x.step(1);
    Due.is("NIGHT 400, BACK too", 0, x.force(0));
  }

  // ---- promise 14: why

  static void promise14_noTerm() {
    GalleryWalls x = two();
    Due.is("none", -2, x.why(0, 0, 0));
    Due.term(x, "0", 0, 1);
    Due.is("none yet", -2, x.why(0, 0, 0));
    x.step(1);
    Due.is("then", 0, x.why(0, 0, 0));
  }

  static void promise14_theFirstThatDoesNotHold() {
    String[] texts = {"0", "0;0", "1;0", "1;0;1;0", "1;1;1;0", times(29, "1;") + "0"};
    int[] want = {0, 0, 1, 1, 3, 29};
    for (int i = 0; i < texts.length; i++) {
      GalleryWalls x = two();
      Due.term(x, texts[i], 0, 0);
      Due.is(texts[i], want[i], x.why(0, 0, 0));
    }
  }

  static void promise14_noneSuch() {
    for (int n : new int[] {-1, 7, 24, LEAST, MOST}) Twins.refused("PICTURE " + n, -1, x -> x.why(n, 0, 0));
    for (int n : new int[] {-1, 3, 16, LEAST, MOST}) Twins.refused("WALL " + n, -1, x -> x.why(4, n, 0));
  }

  static void promise14_alsoOfOnesThatAreAwayOrBack() {
    GalleryWalls x = two();
    Due.term(x, "w=1", 0, 0);
    Due.term(x, "w=1", 1, 0);
    x.send(0);
    x.tell(1, 3, 1);
    x.step(1);
    for (int p = 0; p < 2; p++) {
      Due.is("not on WALL 0", 0, x.why(p, 0, 0));
      Due.is("on WALL 1", -2, x.why(p, 1, 0));
    }
  }

  /** A text of a term that holds in the gallery of letters, or whose first expression does not. */
  private static void holds(GalleryWalls x, String text, int wall, int place) {
    Due.yes("'" + text + "' is a term", Due.term(x, text, 0, 0) >= 0);
    Due.is("'" + text + "' at " + wall + " " + place, -2, x.why(0, wall, place));
  }

  private static void value(String text, int want) {
    GalleryWalls x = two();
    holds(x, text + "=" + (want < 0 ? "-" : "") + Math.abs(want), 0, 0);
    Due.yes("'" + text + "' is a term", Due.term(x, text, 0, 0) >= 0);
    Due.is("'" + text + "'", want == 0 ? 0 : -2, x.why(0, 0, 0));
  }

  static void promise14_not0Holds() {
    value("1", 1);
    value("0", 0);
    value("-1", -1);
    value("9999", 9999);
    value("1-1", 0);
    value("1-2", -1);
  }

  static void promise14_0BehindADivision() {
    value("7/0", 0);
    value("-7/0", 0);
    value("0/0", 0);
    value("7%0", 0);
    value("-7%0", 0);
    value("7/(1-1)", 0);
    value("5+7/0", 5);
    value("5+7%0", 5);
  }

  static void promise14_divisionsAreCut() {
    value("7/2", 3);
    value("-7/2", -3);
    value("7/-2", -3);
    value("-7/-2", 3);
    value("1/2", 0);
    value("-1/2", 0);
    value("7%3", 1);
    value("-7%3", -1);
    value("7%-3", 1);
    value("6%3", 0);
  }

  static void promise14_numbersWrapAround() {
    String big = "(2048*1024*1024-1)";
    holds(two(), big + "+1<0;" + big + ">0", 0, 0);
    holds(two(), "-" + big + "-2>0;-" + big + "-1<0", 0, 0);
    holds(two(), "4096*4096*256=0;4096*4096*128<0", 0, 0);
    holds(two(), "-(4096*4096*128)=4096*4096*128", 0, 0);
    holds(two(), "4096*4096*128/-1=4096*4096*128", 0, 0);
    holds(two(), "4096*4096*128%-1=0", 0, 0);
    holds(two(), "4096*4096*128-1>0", 0, 0);
  }

  static void promise14_operatorsOfOneKindFromTheLeft() {
    value("10-4-3", 3);
    value("10-4+3", 9);
    value("100/10/5", 2);
    value("100/10*5", 50);
    value("2*7%4", 2);
    value("7%4*2", 6);
    value("7%5%2", 0);
    value("8/(4/2)", 4);
    value("10-(4-3)", 9);
  }

  static void promise14_whatBindsMore() {
    value("2+3*4", 14);
    value("2*3+4", 10);
    value("9-8/4", 7);
    value("9-8%5", 6);
    value("-2*3", -6);
    value("-2+3", 1);
    value("!1+1", 1);
    value("!0*5", 5);
    value("(1+1<3)", 1);
    value("(3<1+1)", 0);
    value("(2*2=4)", 1);
    value("(0|1&0)", 0);
    value("(1|1&0)", 1);
    value("(0&0|1)", 1);
    value("(0&1<2)", 0);
    value("(2=2&1)", 1);
    value("(0|2=2)", 1);
    value("(2>1|0)", 1);
    value("(1>0&0)", 0);
  }

  static void promise14_expressionsOfOneOperatorAlone() {
    String[] not0 = {"0|1", "1|0", "1|1", "1&1", "1|1&0", "0&0|1", "1<2", "2>1", "1=1", "1+1", "1-2", "2*3", "4/2", "5%4", "!0", "-1"};
    for (String t : not0) alone(t, -2);
    String[] is0 = {"0|0", "1&0", "0&1", "0|1&0", "2<1", "1>2", "1=2", "1-1", "2*0", "4/5", "4%2", "!1", "-0"};
    for (String t : is0) alone(t, 0);
    alone("1|0;0", 1);
    alone("0|1;0|0", 1);
    alone("1|1;1&1;0|0;0", 2);
  }

  private static void alone(String text, int want) {
    GalleryWalls x = two();
    Due.is("'" + text + "'", 0, Due.term(x, text, 0, 0));
    Due.is("'" + text + "'", want, x.why(0, 0, 0));
  }

  static void promise14_logicGives1Or0() {
    value("(3|0)", 1);
    value("(0|-3)", 1);
    value("(0|0)", 0);
    value("(3&-2)", 1);
    value("(3&0)", 0);
    value("(0&3)", 0);
    value("!3", 0);
    value("!-3", 0);
    value("!0", 1);
    value("!!7", 1);
    value("!!0", 0);
  }

  static void promise14_comparisonsGive1Or0() {
    int[][] all = {{1, 2, 1, 0, 0}, {2, 2, 0, 0, 1}, {3, 2, 0, 1, 0}, {0, 0, 0, 0, 1}, {0, 9999, 1, 0, 0}};
    for (int[] a : all) {
      value("(" + a[0] + "<" + a[1] + ")", a[2]);
      value("(" + a[0] + ">" + a[1] + ")", a[3]);
      value("(" + a[0] + "=" + a[1] + ")", a[4]);
    }
    value("(-1<0)", 1);
    value("(-2>-1)", 0);
  }

  /** Picture 0 is asked; 1 to 3 hang on wall 1 (room 2) at 100, 200 and 300, 4 on wall 2 of that room. */
  private static GalleryWalls lettered() {
    GalleryWalls x = Due.rooms(4);
    x.wall(0, 500, 300, 99);
    x.wall(2, 500, 300, 99);
    x.wall(2, 500, 300, 99);
    x.wall(3, 500, 300, 99);
    x.door(0, 1, 50, 100);
    x.door(2, 1, 50, 100);
    x.picture(200, 300, 5, 6, 2999, 0, 0);
    for (int i = 1; i < 5; i++) x.picture(20, 20, 5, i == 3 ? 7 : 6, 0, 0, 0);
    for (int i = 1; i < 4; i++) x.hang(i, 1, 100 * i);
    x.hang(4, 2, 0);
    return x;
  }

  static void promise14_letterR() {
    holds(lettered(), "r=0", 0, 0);
    holds(lettered(), "r=2", 1, 0);
    holds(lettered(), "r=3", 3, 0);
  }

  static void promise14_letterW() {
    for (int w = 0; w < 4; w++) holds(lettered(), "w=" + w, w, 0);
  }

  static void promise14_lettersPAndL() {
    GalleryWalls x = lettered();
    holds(x, "p=0;l=0", 0, 0);
    x.light(0, 2, 24, 1, 1);
    holds(x, "p=18;l=116", 0, 0);
    x.blind(0, 17, 23);
    holds(x, "p=17;l=98", 0, 0);
    x.blind(0, 1, 0);
    x.set(2, 17);
    holds(x, "p=18;l=18", 0, 0);
    x.light(0, 2, 24, 9999, 0);
    x.set(2, 0);
    x.set(3, 23);
    holds(x, "p=9999;l=9999*24", 0, 0);
  }

  static void promise14_lettersNSAndBOfNeighboursNotAboveAndAboveX() {
    GalleryWalls x = lettered();
    x.tell(0, 0, 2);
    holds(x, "n=0;s=0;b=0", 3, 0);
    holds(x, "n=1;s=1;b=0", 1, 99);
    holds(x, "n=2;s=2;b=1", 1, 100);
    holds(x, "n=2;s=2;b=1", 1, 199);
    holds(x, "n=2;s=1;b=1", 1, 200);
    holds(x, "n=2;s=1;b=1", 1, 299);
    holds(x, "n=1;s=0;b=0", 1, 300);
    holds(x, "n=1;s=1;b=0", 1, LEAST);
    holds(x, "n=1;s=0;b=0", 1, MOST);
  }

  static void promise14_letterBWithoutAFellow() {
    GalleryWalls x = lettered();
    holds(x, "b=0", 1, 150);
    x.tell(0, 0, 4);
    holds(x, "b=0", 1, 150);
    holds(x, "b=1", 2, 0);
    x.tell(4, 0, 1);
    holds(x, "b=0", 2, 0);
  }

  static void promise14_letterKCountsOthersOfTheWholeRoom() {
    GalleryWalls x = lettered();
    holds(x, "k=0", 0, 0);
    holds(x, "k=4", 1, 0);
    holds(x, "k=4", 2, 400);
    x.hang(0, 2, 200);
    holds(x, "k=4", 2, 200);
    holds(x, "k=4", 1, 0);
    x.store(4);
    x.send(3);
    holds(x, "k=2", 1, 0);
    holds(x, "k=0", 3, 0);
  }

  static void promise14_letterF() {
    GalleryWalls x = lettered();
    holds(x, "f=1000*1000", 0, 0);
    x.tell(0, 2, 0);
    holds(x, "f=0", 0, 0);
    x.light(0, 2, 24, 10, 0);
    x.hang(0, 0, 0);
    x.step(1);
    holds(x, "f=-80", 0, 0);
    x.tell(0, 2, 81);
    holds(x, "f=1", 0, 0);
  }

  static void promise14_letterT() {
    GalleryWalls x = lettered();
    holds(x, "t=0", 0, 0);
    x.step(1);
    holds(x, "t=1", 0, 0);
    for (int i = 0; i < 3; i++) x.step(100);
    x.step(99);
    holds(x, "t=400", 0, 0);
  }

  static void promise14_letterY() {
    GalleryWalls x = lettered();
    holds(x, "y=2999", 0, 0);
    Due.term(x, "y=0", 1, 0);
    Due.is("the least", -2, x.why(1, 0, 0));
  }

  static void promise14_letterA() {
    GalleryWalls x = lettered();
    holds(x, "a=0", 0, 0);
    holds(x, "a=2", 1, 0);
    holds(x, "a=99", 3, 0);
    x.door(3, 2, 50, 100);
    holds(x, "a=3", 3, 0);
    x.door(0, 3, 50, 100);
    holds(x, "a=1", 3, 0);
    holds(x, "a=2", 1, 0);
  }

  static void promise14_letterACountsAllDoors() {
    GalleryWalls x = lettered();
    Due.is("it does not PASS", -2, x.way(0, 0, 2));
    holds(x, "a=2", 1, 0);
    x.shut(1, true);
    x.shut(2, true);
    holds(x, "a=2", 1, 0);
    x.shut(0, true);
    holds(x, "a=0", 0, 0);
  }

  static void promise14_letterAWithoutADoor() {
    GalleryWalls x = two();
    holds(x, "a=0", 0, 0);
    holds(x, "a=99", 1, 0);
    x.room();
    x.wall(2, 500, 300, 99);
    holds(x, "a=99", 2, 0);
    holds(x, "a=0", 0, 0);
  }

  static void promise14_letterAOfTheFarthestRoom() {
    GalleryWalls x = Due.rooms(10);
    for (int i = 8; i >= 0; i--) x.door(i + 1, i, 50, 100);
    x.wall(9, 100, 300, 50);
    Due.pic(x, 20, 20, 5);
    holds(x, "a=9", 0, 0);
    GalleryWalls y = Due.rooms(9);
    for (int i = 0; i < 8; i++) y.door(i, i + 1, 50, 100);
    Due.is("a ROOM more", 9, y.room());
    y.wall(9, 100, 300, 50);
    Due.pic(y, 20, 20, 5);
    holds(y, "a=99", 0, 0);
    y.door(8, 9, 50, 100);
    holds(y, "a=9", 0, 0);
  }
}
