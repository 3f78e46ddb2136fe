/** Promises 10 to 14: THE TAPE and terms. */
public final class TermTest {
  public static void main(String[] args) {
    tape();
    refused();
    firstWrongSign();
    longTexts();
    values();
    letters();
    whichHolds();
    thirty();
    Due.end();
  }

  private static void tape() {
    GalleryWalls x = Due.rooms(1);
    x.wall(0, 500, 300, 99);
    Due.pic(x, 20, 20, 5);
    for (int i = 1; i <= 25; i++) Due.is("sign " + i, 4 * i, x.sign(0x31313131));
    Due.is("sign 26", -1, x.sign(0x31313131));
    Due.is("signs", 100, x.count(11));
    Due.no("end(-1)", x.end(-1));
    Due.no("end(101)", x.end(101));
    Due.yes("end(100)", x.end(100));
    Due.yes("end(97)", x.end(97));
    Due.is("97 + 4 are too many", -1, x.sign(0x31313131));
    Due.is("signs are still", 97, x.count(11));
    Due.yes("end(96)", x.end(96));
    Due.is("96 + 4", 100, x.sign(0x31313131));
    Due.yes("end(0)", x.end(0));
    Due.no("end(1)", x.end(1));
    Due.is("highest byte first", 4, x.sign(0x312d353b));
    Due.is("and the next", 8, x.sign(0x303d3071));
    x.end(7);
    Due.is("1-5;0=0", 0, x.term(0, 0));
    Due.is("empty then", 0, x.count(11));
    Due.is("it holds", -2, x.why(0, 0, 0));
    x.sign(0x313bfffe);
    Due.is("a sign above 127", -3, x.term(0, 0));
    x.sign(0);
    Due.is("a sign 0", -1, x.term(0, 0));
  }

  private static void refused() {
    GalleryWalls x = Due.rooms(1);
    Due.pic(x, 20, 20, 5);
    int[][] bad = {{1, 0}, {-1, 0}, {0, -1}, {0, 401}, {24, 0}};
    for (int[] b : bad) {
      Due.is("a term of " + b[0] + " from " + b[1], -100, Due.term(x, "1", b[0], b[1]));
      Due.is("the tape is empty", 0, x.count(11));
      Due.is("asked ahead of the text", -100, Due.term(x, "?", b[0], b[1]));
    }
    Due.is("a bad text", -2, Due.term(x, "1?", 0, 0));
    Due.is("the tape is empty", 0, x.count(11));
    Due.is("no terms", 0, x.count(4));
    Due.is("from 400", 0, Due.term(x, "1", 0, 400));
    Due.is("not yet", -1, x.force(0));
    Due.is("of none such", -1, x.force(1));
    Due.is("of -1", -1, x.force(-1));
    Due.is("why on no wall", -1, x.why(0, 0, 0));
    x.wall(0, 100, 100, 100);
    Due.is("why of no picture", -1, x.why(1, 0, 0));
    Due.is("why on wall -1", -1, x.why(0, -1, 0));
    Due.is("why without a term", -2, x.why(0, 0, 0));
  }

  private static void firstWrongSign() {
    GalleryWalls x = new GalleryWalls();
    Due.pic(x, 20, 20, 5);
    Object[][] texts = {
      {"", 0}, {"r+", 2}, {"z", 0}, {"(r", 2}, {"rr", 1}, {"12345", 4}, {"1234", -1}, {"r<p<1", 3}, {"r<p=1", 3}, {"(r<p)<1", -1},
      {"r<(p<1)", -1}, {"r<p&p<1", -1}, {"r<p|p<1", -1}, {"r<p&p<1<2", 7}, {"r<p+1<2", 5}, {"r<p*2>1", 5}, {"r<-p>1", 4}, {"r<!p=1", 4},
      {"(1)(", 3}, {"(1)1", 3}, {"(1)r", 3}, {"1(", 1}, {"1r", 1}, {"r1", 1}, {"1!", 1}, {"1!=2", 1}, {"1~2", 1}, {"~1", 0}, {"--1", -1},
      {"!!-!1", -1}, {"1--1", -1}, {"1+-1", -1}, {"1++1", 2}, {"+1", 0}, {"*1", 0}, {"1**1", 2}, {"1&&1", 2}, {"1||1", 2}, {"1==1", 2},
      {"1<=1", 2}, {"()", 1}, {")", 0}, {"1)", 1}, {"((1)", 4}, {"((1)))", 5}, {"(1;1)", 2}, {";", 0}, {"1;", 2}, {"1;;1", 2}, {"1;1", -1},
      {"1<2;1<2", -1}, {"1<2;1<2<3", 7}, {"(1<2)|(1<2)=1", -1}, {"(1<2=1)", 4}, {"(1<2)=(1<2)", -1}, {"1<2=1", 3}, {" 1", 0}, {"1 ", 1},
      {"1 +1", 1}, {"R", 0}, {"c", 0}, {"0000", -1}, {"00000", 4}, {"1+12345", 6}, {"(1234)5", 6}, {"rwplnsbkftya", 1}, {"-", 1}, {"!", 1}, {"(", 1},
      {"1,1", 1}, {"1^1", 1}, {"1.1", 1}, {"#", 0}, {"r<p|p<1<2", 7}, {"(r<p", 4}, {"(r<p<", 4}, {"r<((p<1)<2", 10}, {"r<((p<1)<2)<", 11}};
    for (Object[] t : texts) {
      int got = Due.term(x, (String) t[0], 0, 0);
      int place = (Integer) t[1];
      if (place < 0) Due.yes("'" + t[0] + "' is a term: " + got, got >= 0);
      else Due.is("'" + t[0] + "'", -1 - place, got);
    }
    for (char c : "rwplnsbkftya".toCharArray()) Due.yes("letter " + c, Due.term(new GalleryWallsOfOne().x, "" + c, 0, 0) == 0);
    for (char c = 0; c < 256; c++) {
      boolean thing = "rwplnsbkftya0123456789".indexOf(c) >= 0;
      int got = Due.term(new GalleryWallsOfOne().x, "" + c, 0, 0);
      Due.is("sign " + (int) c, thing ? 0 : "(!-".indexOf(c) >= 0 ? -2 : -1, got);
      int behind = Due.term(new GalleryWallsOfOne().x, "1" + c, 0, 0);
      Due.is("sign " + (int) c + " behind a number", c >= '0' && c <= '9' ? 0 : "|&<>=+-*/%;".indexOf(c) >= 0 ? -3 : -2, behind);
    }
  }

  private static final class GalleryWallsOfOne {
    final GalleryWalls x = new GalleryWalls();
    GalleryWallsOfOne() { Due.pic(x, 20, 20, 5); }
  }

  private static String times(String s, int n) {
    StringBuilder b = new StringBuilder();
    for (int i = 0; i < n; i++) b.append(s);
    return b.toString();
  }

  private static void longTexts() {
    GalleryWalls x = Due.rooms(1);
    x.wall(0, 500, 300, 99);
    Due.pic(x, 20, 20, 5);
    Due.is("60 signs and an end too early", -61, Due.term(x, times("1+", 30), 0, 0));
    Due.is("59 signs", 0, Due.term(x, times("1+", 29) + "1", 0, 0));
    Due.is("60 signs", 1, Due.term(x, times("1+", 29) + "11", 0, 0));
    Due.is("61 signs", -61, Due.term(x, times("1+", 30) + "1", 0, 0));
    Due.is("61 signs, the last one wrong", -61, Due.term(x, times("1+", 30) + "?", 0, 0));
    Due.is("61 signs, the 60th one wrong", -60, Due.term(x, times("1+", 29) + "1??", 0, 0));
    Due.is("60 open brackets", -61, Due.term(x, times("(", 60), 0, 0));
    Due.is("100 open brackets", -61, Due.term(x, times("(", 100), 0, 0));
    Due.is("29 brackets", 2, Due.term(x, times("(", 29) + "0" + times(")", 29), 0, 0));
    Due.is("they are 0", 0, x.why(0, 0, 0));
    Due.is("29 brackets and one more", -60, Due.term(x, times("(", 29) + "0" + times(")", 30), 0, 0));
    Due.is("59 times !", 3, Due.term(x, times("!", 59) + "7", 0, 0));
    Due.is("odd many: 0", 0, x.why(0, 0, 0));
    Due.is("58 times !", 4, Due.term(x, times("!", 58) + "7", 0, 0));
    Due.is("even many: 1", -2, x.why(0, 0, 0));
    Due.is("60 times -", -61, Due.term(x, times("-", 60), 0, 0));
    Due.is("30 expressions less one sign", 5, Due.term(x, times("1;", 29) + "0", 0, 0));
    Due.is("the last one", 29, x.why(0, 0, 0));
    Due.is("brackets that nest to the right", 6, Due.term(x, times("1-(", 14) + "1" + times(")", 14) + "-1", 0, 0));
    Due.is("1 - 1 less 1 is not 0", 0, x.why(0, 0, 0) == -2 ? 1 : 0);
  }

  private static void value(GalleryWalls x, String text, int want) {
    String t = want < 0 ? text + "=-" + -want : text + "=" + want;
    Due.yes(t + " is a term", Due.term(x, t, 0, 0) >= 0);
    Due.is(t, -2, x.why(0, 0, 0));
  }

  private static void values() {
    Object[][] all = {
      {"2+3*4", 14}, {"2*3+4", 10}, {"10-3-2", 5}, {"100/10/5", 2}, {"100/10*5", 50}, {"7%4%2", 1}, {"2*7%4", 2}, {"7/2", 3}, {"-7/2", -3},
      {"7/-2", -3}, {"-7%3", -1}, {"7%-3", 1}, {"5/0", 0}, {"5%0", 0}, {"-5/0", 0}, {"(5-7)*3", -6}, {"--5", 5}, {"-(2+3)", -5}, {"!5", 0}, {"!0", 1}, {"!!5", 1},
      {"-!0", -1}, {"!-5", 0}, {"-2*-3", 6}, {"10-4+3", 9}, {"10-(4+3)", 3}, {"!0+1", 2}, {"!(0+1)", 0}, {"-3+5", 2}, {"(1<2)+(2<1)", 1},
      {"(2>1)", 1}, {"(1>1)", 0}, {"(1<1)", 0}, {"(1=1)", 1}, {"(3|0)", 1}, {"(0|0)", 0}, {"(3&2)", 1}, {"(3&0)", 0}, {"(0|2&0)", 0}, {"(1|1&0)", 1},
      {"(1&0|1)", 1}, {"(0&0|1)", 1}, {"(0&(0|1))", 0}, {"(4&1+1)", 1}, {"(1<2&3)", 1}, {"(1+1<3)", 1}, {"(3<1+1)", 0}, {"(5=2+3)", 1}, {"(2*3=6)", 1},
      {"(9999*9999*9999<0)", 1}, {"(1<0-1)", 0}, {"(-1|0)", 1}, {"(-1&-2)", 1}, {"(2=1+1&1)", 1}, {"8/(3/2)", 8}, {"8/3*2", 4}, {"8%3*2", 4}, {"007", 7}, {"0000", 0}};
    for (Object[] a : all) {
      GalleryWalls x = Due.rooms(1);
      x.wall(0, 500, 300, 99);
      Due.pic(x, 20, 20, 5);
      value(x, (String) a[0], (Integer) a[1]);
      GalleryWalls y = Due.rooms(1);
      y.wall(0, 500, 300, 99);
      Due.pic(y, 20, 20, 5);
      Due.is(a[0] + " alone", 0, Due.term(y, (String) a[0], 0, 0));
      Due.is(a[0] + " alone, not 0", (Integer) a[1] == 0 ? 0 : -2, y.why(0, 0, 0));
    }
    GalleryWalls x = Due.rooms(1);
    x.wall(0, 500, 300, 99);
    Due.pic(x, 20, 20, 5);
    Due.is("a product beyond the ints is -1027349969", 0, Due.term(x, "9999*9999*9999/1000=-102*9999-7451", 0, 0));
    Due.is("as ints", -2, x.why(0, 0, 0));
    Due.is("least int", 1, Due.term(x, "4096*4096*128/-1=-4096*4096*128", 0, 0));
    Due.is("least int by -1 is itself", -2, x.why(0, 0, 0));
    Due.is("least int % -1", 2, Due.term(x, "4096*4096*128%-1=0", 0, 0));
    Due.is("is 0", -2, x.why(0, 0, 0));
    Due.is("the first that does not hold", 3, Due.term(x, "1;2;0;3;0", 0, 0));
    Due.is("place of it", 2, x.why(0, 0, 0));
    Due.is("below 0 holds", 4, Due.term(x, "-1", 0, 0));
    Due.is("all hold", -2, x.why(0, 0, 0));
  }

  /** At places of wall 2 in room 3: each letter has the value that is due. */
  private static void letters() {
    GalleryWalls x = Due.rooms(5);
    x.door(0, 1, 50, 100);
    x.door(1, 3, 50, 100);
    x.wall(0, 500, 300, 999);
    x.wall(3, 500, 300, 999);
    x.wall(3, 500, 300, 999);
    x.wall(4, 500, 300, 999);
    x.light(2, 2, 24, 1, 1);
    x.blind(2, 0, 11);
    x.picture(40, 40, 5, 3, 1888, 10, 2);
    x.picture(40, 40, 5, 3, 1800, 10, 2);
    x.picture(40, 40, 5, 4, 1700, 10, 2);
    x.picture(40, 40, 5, 3, 1700, 10, 2);
    x.picture(40, 40, 5, 3, 1700, 10, 2);
    x.tell(0, 0, 2);
    x.hang(1, 2, 100);
    x.hang(2, 2, 200);
    x.hang(3, 1, 200);
    x.hang(4, 0, 200);
    x.shut(1, true);
    atPlace(x, 2, 150, "r=3;w=2;p=18;l=93;n=2;s=1;b=1;k=3;f=1000*1000;t=0;y=1888;a=2");
    atPlace(x, 2, 99, "n=1;s=1;b=0");
    atPlace(x, 2, 100, "n=2;s=1;b=1");
    atPlace(x, 2, 199, "n=2;s=1;b=1");
    atPlace(x, 2, 200, "n=1;s=0;b=1");
    atPlace(x, 2, -7, "n=1;s=1;b=0");
    atPlace(x, 2, Integer.MAX_VALUE, "n=1;s=0;b=1");
    atPlace(x, 2, Integer.MIN_VALUE, "n=1;s=1;b=0");
    atPlace(x, 3, 0, "r=4;w=3;a=99;n=0;s=0;b=0;k=0;p=0;l=0");
    atPlace(x, 0, 0, "r=0;w=0;a=0;n=1;s=1;b=0;k=1");
    Due.term(x, "1", 0, 0);
    Due.is("hang", 0, x.hang(0, 2, 300));
    atPlace(x, 2, 350, "n=1;s=0;b=1;k=3");
    atPlace(x, 2, 150, "n=2;s=1;b=1;k=3");
    x.tell(0, 2, 100);
    x.step(2);
    atPlace(x, 1, 0, "f=100-186;t=2;k=3");
    x.tell(0, 0, -1);
    atPlace(x, 2, 150, "b=0");
    x.door(3, 4, 50, 100);
    atPlace(x, 3, 0, "a=3");
    x.send(0);
    atPlace(x, 2, 150, "n=2;s=1;k=3;y=1888");
  }

  private static void atPlace(GalleryWalls x, int wall, int place, String text) {
    Due.yes(text, Due.term(x, text, 0, 0) >= 0);
    Due.is(text + " at " + wall + " " + place, -2, x.why(0, wall, place));
  }

  private static void whichHolds() {
    GalleryWalls x = Due.rooms(1);
    x.wall(0, 500, 300, 99);
    Due.pic(x, 20, 20, 5);
    Due.pic(x, 20, 20, 5);
    Due.is("from 3", 0, Due.term(x, "1", 0, 3));
    Due.is("from 1", 1, Due.term(x, "0", 0, 1));
    Due.is("of the other", 2, Due.term(x, "0", 1, 2));
    Due.is("from 3 again", 3, Due.term(x, "1;0", 0, 3));
    Due.is("from 5", 4, Due.term(x, "1;1;0", 0, 5));
    Due.is("from 4, told later", 5, Due.term(x, "1;1;1;0", 0, 4));
    int[] want = {-1, 1, 1, 3, 5, 4, 4};
    int[] whys = {-2, 0, 0, 1, 3, 2, 2};
    for (int night = 0; night < want.length; night++) {
      Due.is("night " + night + ": force", want[night], x.force(0));
      Due.is("night " + night + ": why", whys[night], x.why(0, 0, 0));
      Due.is("night " + night + ": the other", night < 2 ? -1 : 2, x.force(1));
      Due.is("night " + night + ": fits", night == 0 ? 0 : 6, x.fits(0, 0, 0));
      x.step(1);
    }
  }

  private static void thirty() {
    GalleryWalls x = new GalleryWalls();
    Due.pic(x, 20, 20, 5);
    for (int i = 0; i < 30; i++) Due.is("term " + i, i, Due.term(x, "1", 0, 0));
    Due.is("term 31", -100, Due.term(x, "1", 0, 0));
    Due.is("term 31 of a bad text", -100, Due.term(x, "?", 0, 0));
    Due.is("terms", 30, x.count(4));
    Due.is("the last holds", 29, x.force(0));
  }
}
