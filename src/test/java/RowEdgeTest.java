/** The edges of promises 27 to 32, each sentence by itself: likings, rows for a wall, the tale and its breaks. */
public final class RowEdgeTest {
  private static final int LEAST = Integer.MIN_VALUE;
  private static final int MOST = Integer.MAX_VALUE;

  public static void main(String[] args) throws Exception { Due.each(RowEdgeTest.class); }

  // ---- promise 27: like

  static void promise27_at0AtFirst() {
    for (int a = 0; a < 8; a++) for (int b = 0; b < 8; b++) Due.is(a + " and " + b, 0, new GalleryWalls().like(a, b, 1));
  }

  static void promise27_fromMinus99To99() {
    GalleryWalls x = new GalleryWalls();
    Due.is("-99", 0, x.like(0, 7, -99));
    Due.is("99", -99, x.like(0, 7, 99));
    Due.is("it was", 99, x.like(0, 7, 0));
    for (int v : new int[] {-100, 100, LEAST, MOST}) Twins.refused("like " + v, Twins.THROWN, y -> y.like(0, 1, v));
  }

  static void promise27_schoolsFrom0To7() {
    for (int school : new int[] {-1, 8, LEAST, MOST}) {
      Twins.refused(school + " and 1", Twins.THROWN, x -> x.like(school, 1, 5));
      Twins.refused("1 and " + school, Twins.THROWN, x -> x.like(1, school, 5));
    }
    Due.is("7 and 7", 0, new GalleryWalls().like(7, 7, 5));
  }

  static void promise27_theSameTwoEitherWay() {
    GalleryWalls x = new GalleryWalls();
    x.like(2, 5, 3);
    Due.is("5 and 2", 3, x.like(5, 2, 4));
    Due.is("2 and 5", 4, x.like(2, 5, 0));
  }

  static void promise27_alsoWithItself() {
    GalleryWalls x = new GalleryWalls();
    x.like(2, 2, 3);
    Due.is("2 and 2", 3, x.like(2, 2, 3));
    Due.is("2 and 3", 0, x.like(2, 3, 0));
    Due.is("3 and 3", 0, x.like(3, 3, 0));
  }

  static void promise27_eachTwoByThemselves() {
    GalleryWalls x = new GalleryWalls();
    for (int a = 0; a < 8; a++) for (int b = 0; b <= a; b++) x.like(a, b, 8 * a + b);
    for (int a = 0; a < 8; a++) for (int b = 0; b <= a; b++) Due.is(a + " and " + b, 8 * a + b, x.like(b, a, 8 * a + b));
  }

  // ---- promise 28: best

  /** A wall of just these numbers, GAP 20, EYE 150; pictures of school 0 to 7 in turn. */
  private static GalleryWalls house(int length, int height, int bears, int... widths) {
    GalleryWalls x = Due.rooms(2);
    x.wall(0, length, height, bears);
    x.wall(1, 3000, 900, 9999);
    for (int i = 0; i < widths.length; i++) x.picture(widths[i], 50, 10, i % 8, 0, 0, 0);
    return x;
  }

  private static GalleryWalls nine() { return house(3000, 300, 9999, 50, 50, 50, 50, 50, 50, 50, 50, 50); }

  static void promise28_onePicture() {
    GalleryWalls x = nine();
    for (int p = 0; p < 9; p++) {
      Due.is("alone", 0, x.best(0, 1 << p));
      Due.row("alone", x, p);
    }
  }

  static void promise28_sevenPictures() {
    GalleryWalls x = nine();
    Due.is("the first ones", 0, x.best(0, 0b1111111));
    Due.row("the first ones", x, 0, 1, 2, 3, 4, 5, 6);
    Due.is("the last ones", 0, x.best(0, 0b111111100));
    Due.row("the last ones", x, 2, 3, 4, 5, 6, 7, 8);
  }

  static void promise28_thePictureOfTheGreatestNumber() {
    GalleryWalls x = nine();
    for (int i = 9; i < 24; i++) x.picture(50, 50, 10, 0, 0, 0, 0);
    x.like(0, 0, 9);
    Due.is("0 and 23", 9, x.best(0, 1 << 23 | 1));
    Due.row("0 and 23", x, 0, 23);
    Due.thrown("bit 24", () -> x.best(0, 1 << 24));
    Due.thrown("bit 24 and one that is there", () -> x.best(0, 1 << 24 | 1));
  }

  private static void thrown(String what, int wall, int bits) { Twins.refused(what, Twins.THROWN, x -> x.best(wall, bits)); }

  static void promise28_noPicture() { thrown("none", 0, 0); }

  static void promise28_moreThanSeven() {
    Twins.refused(() -> {
      GalleryWalls x = nine();
      x.best(0, 0b1111111);
      return x;
    }, "eight", Twins.THROWN, x -> x.best(0, 0b11111111));
    thrown("all bits", 0, -1);
    thrown("all but the sign's", 0, MOST);
  }

  static void promise28_noneSuch() {
    thrown("PICTURE 7", 0, 1 << 7);
    thrown("PICTURE 7 and others", 0, 0b11 | 1 << 7);
    thrown("PICTURE 24", 0, 1 << 24);
    thrown("PICTURE 31", 0, LEAST);
    thrown("PICTURE 31 and others", 0, LEAST | 0b11);
    for (int wall : new int[] {-1, 3, 16, LEAST, MOST}) thrown("WALL " + wall, wall, 0b11);
  }

  static void promise28_awayOrBack() {
    thrown("AWAY", 0, 1 << 5);
    thrown("AWAY, with others", 0, 0b11 | 1 << 5);
    thrown("BACK", 0, 1 << 6);
    thrown("BACK, with others", 0, 0b11 | 1 << 6);
  }

  static void promise28_alsoOnesThatAreHungAnywhere() {
    GalleryWalls x = Twins.whole();
    Due.is("on other WALLS, too", -3, x.best(0, 0b110));
    Due.row("on other WALLS, too", x, 1, 2);
    Due.is("they stay there", 1, x.at(2, 1));
  }

  static void promise28_theyGoIntoItsLength() {
    Due.is("just", 0, house(220, 300, 99, 100, 100).best(0, 0b11));
    Due.thrown("not just", () -> house(219, 300, 99, 100, 100).best(0, 0b11));
    Due.is("one alone", 0, house(100, 300, 99, 100).best(0, 1));
    Due.thrown("one alone, too long", () -> house(100, 300, 99, 101).best(0, 1));
    Due.is("three", 0, house(340, 300, 99, 100, 100, 100).best(0, 0b111));
    Due.thrown("three, too long", () -> house(339, 300, 99, 100, 100, 100).best(0, 0b111));
  }

  static void promise28_gapApart() {
    for (int gap : new int[] {0, 1, 99}) {
      GalleryWalls x = house(200 + gap, 300, 99, 100, 100);
      x.set(1, gap);
      Due.is("GAP " + gap, 0, x.best(0, 0b11));
      if (gap == 99) continue;
      x.set(1, gap + 1);
      Due.thrown("a wider GAP than " + gap, () -> x.best(0, 0b11));
    }
  }

  private static int ofHeight(int eye, int height, int picture) {
    GalleryWalls x = house(500, height, 99, 50);
    x.set(0, eye);
    x.picture(50, picture, 10, 0, 0, 0, 0);
    return x.best(0, 0b11);
  }

  static void promise28_eachHas2OfFits() {
    Due.is("twice EYE", 0, ofHeight(150, 900, 300));
    Due.thrown("above twice EYE", () -> ofHeight(150, 900, 301));
    Due.is("twice the HEIGHT less EYE", 0, ofHeight(150, 250, 200));
    Due.thrown("above twice the HEIGHT less EYE", () -> ofHeight(150, 250, 201));
    Due.thrown("a WALL below EYE", () -> ofHeight(200, 190, 50));
  }

  static void promise28_allWeightsNotAboveWhatItBears() {
    Due.is("as heavy", 0, house(500, 300, 20, 50, 50).best(0, 0b11));
    Due.thrown("heavier", () -> house(500, 300, 19, 50, 50).best(0, 0b11));
    Due.is("one alone", 0, house(500, 300, 10, 50, 50).best(0, 0b10));
    Due.thrown("one alone, heavier", () -> house(500, 300, 9, 50, 50).best(0, 0b10));
  }

  static void promise28_othersOfThatWallDoNotCount() {
    GalleryWalls x = house(220, 300, 20, 100, 100, 220);
    x.hang(2, 0, 0);
    x.tell(2, 1, 0);
    Due.is("the wall is full of another, a FOE", 0, x.best(0, 0b11));
  }

  static void promise28_fellowsThatAreBothToldStandBesideEachOther() {
    GalleryWalls x = nine();
    x.tell(0, 0, 2);
    Due.is("0 with 2", 0, x.best(0, 0b111));
    Due.row("0 with 2", x, 0, 2, 1);
    x.like(0, 1, 9);
    x.like(1, 2, 9);
    Due.is("though 1 is liked by both", 9, x.best(0, 0b111));
    Due.row("though 1 is liked by both", x, 0, 2, 1);
    x.tell(3, 0, 1);
    Due.is("two and two", 9, x.best(0, 0b1111));
    Due.row("two and two", x, 0, 2, 1, 3);
    Due.is("all", 9, x.best(0, 0b1111111));
    Due.row("all", x, 0, 2, 1, 3, 4, 5, 6);
  }

  static void promise28_aFellowThatIsNotToldIsNotAsked() {
    GalleryWalls x = nine();
    x.tell(0, 0, 2);
    x.tell(1, 0, 8);
    Due.is("one of each", 0, x.best(0, 0b1011));
    Due.row("one of each", x, 0, 1, 3);
  }

  static void promise28_noTwoOfThemAreFoes() {
    GalleryWalls x = nine();
    x.tell(0, 1, 2);
    Due.thrown("FOE of the first", () -> x.best(0, 0b101));
    Due.thrown("with others between", () -> x.best(0, 0b1111));
    Due.is("only one of them", 0, x.best(0, 0b11));
    Due.is("only the other", 0, x.best(0, 0b110));
    x.tell(0, 1, -1);
    x.tell(2, 1, 0);
    Due.thrown("FOE of the last", () -> x.best(0, 0b101));
    x.tell(2, 1, -1);
    Due.is("no FOES", 0, x.best(0, 0b101));
  }

  static void promise28_termsAndFoesInTheRoomAreNotAsked() {
    GalleryWalls x = nine();
    Due.term(x, "0", 0, 0);
    x.tell(1, 1, 3);
    x.hang(3, 0, 0);
    Due.is("it CAN BE", 0, x.best(0, 0b11));
  }

  static void promise28_ofEqualOnesTheFirstRowOfNumbers() {
    GalleryWalls x = nine();
    x.like(1, 3, 5);
    Due.is("1 and 3 in any place", 5, x.best(0, 0b1111));
    Due.row("1 and 3 in any place", x, 0, 1, 3, 2);
    Due.is("without 0", 5, x.best(0, 0b1110));
    Due.row("without 0", x, 1, 3, 2);
    x.like(2, 1, -1);
    Due.is("2 not beside 1", 5, x.best(0, 0b1110));
    Due.row("2 not beside 1", x, 1, 3, 2);
    x.like(2, 3, -1);
    Due.is("2 beside none", 4, x.best(0, 0b1110));
    Due.row("2 beside none: of equal ones", x, 1, 3, 2);
    Due.is("0 between them", 5, x.best(0, 0b1111));
    Due.row("0 between them", x, 1, 3, 0, 2);
  }

  static void promise28_ofAsManyAsAreToldNow() {
    GalleryWalls x = nine();
    for (int a = 0; a < 8; a++) for (int b = 0; b <= a; b++) x.like(a, b, a * b % 7 - 3);
    int seven = x.best(0, 0b1111111);
    for (int bits = 1; bits < 128; bits += 5) {
      GalleryWalls y = nine();
      for (int a = 0; a < 8; a++) for (int b = 0; b <= a; b++) y.like(a, b, a * b % 7 - 3);
      int want = y.best(0, bits);
      int[] row = new int[y.count(10)];
      for (int i = 0; i < row.length; i++) row[i] = y.row(i);
      Due.is("bits " + bits + " behind others", want, x.best(0, bits));
      Due.row("bits " + bits + " behind others", x, row);
    }
    Due.is("seven again", seven, x.best(0, 0b1111111));
  }

  static void promise28_theGreatestAndTheLeastWorth() {
    GalleryWalls x = nine();
    for (int a = 0; a < 8; a++) for (int b = 0; b <= a; b++) x.like(a, b, 99);
    Due.is("6 times 99", 594, x.best(0, 0b1111111));
    for (int a = 0; a < 8; a++) for (int b = 0; b <= a; b++) x.like(a, b, -99);
    Due.is("6 times -99", -594, x.best(0, 0b1111111));
    Due.row("it comes with its ROW", x, 0, 1, 2, 3, 4, 5, 6);
  }

  static void promise28_aWorthBelow0ComesWithItsRow() {
    for (int worth = -1; worth >= -3; worth--) {
      GalleryWalls x = nine();
      x.like(1, 2, worth);
      Due.is("a WORTH of " + worth, worth, x.best(0, 0b110));
      Due.row("a WORTH of " + worth, x, 1, 2);
      Due.is("it can be laid", 2, x.lay());
    }
  }

  // ---- promise 29: lay

  static void promise29_noneWasFoundYet() {
    Twins.refused(() -> {
      GalleryWalls x = Twins.whole();
      x.lay();
      x.hang(3, 2, 200);
      return x;
    }, "done and not found again", -1, GalleryWalls::lay);
    GalleryWalls x = nine();
    x.hang(0, 0, 0);
    Due.is("never found", -1, x.lay());
    Due.thrown("none is found", () -> x.best(0, 0));
    Due.is("still never found", -1, x.lay());
    Due.is("it stays HUNG", 1, x.at(0, 0));
  }

  static void promise29_itWasDone() {
    GalleryWalls x = nine();
    x.best(0, 0b11);
    Due.is("once", 2, x.lay());
    Due.is("not twice", -1, x.lay());
    x.best(0, 0b111);
    Due.is("found again", 3, x.lay());
  }

  static void promise29_oneOfThemIsAwayOrBack() {
    Twins.refused(() -> {
      GalleryWalls x = Twins.whole();
      x.send(1);
      return x;
    }, "AWAY", -1, GalleryWalls::lay);
    Twins.refused(() -> {
      GalleryWalls x = Twins.whole();
      x.tell(0, 3, 0);
      x.step(1);
      return x;
    }, "BACK", -1, GalleryWalls::lay);
    GalleryWalls x = Twins.whole();
    x.send(1);
    x.lay();
    x.store(1);
    Due.is("there again", 2, x.lay());
  }

  static void promise29_theOneFoundLast() {
    GalleryWalls x = nine();
    x.best(0, 0b11);
    x.best(1, 0b1100);
    Due.thrown("none", () -> x.best(0, 0));
    Due.is("laid", 2, x.lay());
    Due.is("on WALL 1", 1, x.at(2, 1));
    Due.is("the one before is not laid", 2, x.count(6));
  }

  private static void midst(int length, int gap, int... widths) {
    GalleryWalls x = house(length, 300, 999, widths);
    x.set(1, gap);
    x.best(0, (1 << widths.length) - 1);
    Due.is("laid", widths.length, x.lay());
    int whole = gap * (widths.length - 1);
    for (int w : widths) whole += w;
    int at = (length - whole) / 2;
    for (int i = 0; i < widths.length; i++) {
      Due.is("x of " + i + " in " + length + ", GAP " + gap, at, x.at(i, 2));
      at += widths[i] + gap;
    }
  }

  static void promise29_inTheWallsMidst() {
    midst(500, 20, 100);
    midst(501, 20, 100);
    midst(499, 20, 100);
    midst(100, 20, 100);
    midst(101, 20, 100);
    midst(102, 20, 100);
    midst(340, 20, 100, 100, 100);
    midst(341, 20, 100, 100, 100);
    midst(342, 20, 100, 100, 100);
    midst(500, 0, 10, 20, 30, 40);
    midst(3000, 99, 10, 20, 30, 40, 50, 60, 70);
    GalleryWalls x = house(103, 300, 99, 100);
    x.best(0, 1);
    x.lay();
    Due.is("3 by 2, cut", 1, x.at(0, 2));
  }

  static void promise29_whereItWasLaidThen() {
    GalleryWalls x = house(500, 300, 999, 100, 100);
    x.best(0, 0b11);
    x.set(1, 99);
    x.set(0, 200);
    x.tell(0, 1, 1);
    x.like(0, 1, -99);
    Due.is("laid", 2, x.lay());
    Due.is("x of the first", 140, x.at(0, 2));
    Due.is("x of the last", 260, x.at(1, 2));
  }

  static void promise29_allOthersOfThatWallGoToTheStore() {
    GalleryWalls x = house(500, 300, 999, 100, 100, 100, 100, 100);
    x.hang(0, 0, 0);
    x.hang(2, 0, 200);
    x.hang(1, 1, 0);
    x.hang(3, 1, 200);
    x.best(0, 0b11);
    Due.is("laid", 2, x.lay());
    int[][] want = {{1, 0, 140}, {1, 0, 260}, {0, -1, -1}, {1, 1, 200}, {0, -1, -1}};
    for (int p = 0; p < 5; p++) for (int what = 0; what < 3; what++) Due.is("at " + p + " " + what, want[p][what], x.at(p, what));
  }

  static void promise29_theFirstAndTheLastPictureGoToTheStoreToo() {
    GalleryWalls x = house(500, 300, 999, 100, 100, 100);
    for (int i = 3; i < 24; i++) x.picture(10, 50, 10, 0, 0, 0, 0);
    x.hang(0, 0, 0);
    x.hang(23, 0, 490);
    x.best(0, 0b110);
    Due.is("laid", 2, x.lay());
    Due.is("0", 0, x.at(0, 0));
    Due.is("23", 0, x.at(23, 0));
    Due.is("the row alone", 2, x.on(0));
    Due.row("the row alone", x, 1, 2);
  }

  static void promise29_foundAgainAndAgain() {
    GalleryWalls x = house(500, 300, 999, 100, 50, 30);
    x.best(0, 0b111);
    x.best(0, 0b001);
    x.best(0, 0b011);
    Due.is("laid", 2, x.lay());
    Due.is("x of 0", 165, x.at(0, 2));
    Due.is("x of 1", 285, x.at(1, 2));
    x.best(0, 0b010);
    Due.is("laid", 1, x.lay());
    Due.is("x of 1 alone", 225, x.at(1, 2));
    x.best(1, 0b110);
    Due.is("laid", 2, x.lay());
    Due.is("x of 1 on WALL 1", 1450, x.at(1, 2));
    Due.is("x of 2 on WALL 1", 1520, x.at(2, 2));
  }

  static void promise29_fitsIsNotAsked() {
    GalleryWalls x = house(500, 300, 20, 100, 100, 100);
    x.best(0, 0b11);
    Due.term(x, "0", 0, 0);
    x.wall(0, 500, 300, 999);
    x.tell(2, 1, 1);
    x.hang(2, 2, 0);
    x.set(0, 200);
    Due.is("laid", 2, x.lay());
    x.set(0, 150);
    Due.is("against its TERM", 6, x.fits(0, 0, 140));
    Due.is("a FOE in the ROOM", 5, x.fits(1, 0, 260));
  }

  static void promise29_howManyTheRowHas() {
    for (int n = 1; n <= 7; n++) {
      GalleryWalls x = nine();
      x.best(0, (1 << n) - 1);
      Due.is("a row of " + n, n, x.lay());
      Due.is("HUNG", n, x.on(0));
    }
  }

  // ---- promise 30: tale

  /** 13 pictures, twelve of them in the tale, 0 to 2 and 12 met on the route, the others away. */
  private static GalleryWalls longTale() {
    GalleryWalls x = walls(13);
    for (int i = 0; i < 12; i++) x.tale(i);
    for (int i = 0; i < 3; i++) x.hang(i, 0, 200 - 100 * i);
    x.hang(12, 0, 300);
    for (int i = 3; i < 12; i++) x.send(i);
    x.route(0);
    x.on(0);
    return x;
  }

  static void promise30_asManyAs12() {
    GalleryWalls x = nine();
    for (int i = 9; i < 13; i++) x.picture(50, 50, 10, 0, 0, 0, 0);
    for (int i = 0; i < 12; i++) Due.is("tale", i + 1, x.tale(12 - i));
    Due.is("count", 12, x.count(7));
  }

  static void promise30_moreThan12AreRefused() {
    Twins.refused(RowEdgeTest::longTale, "a 13th one", -1, x -> x.tale(12));
  }

  static void promise30_itIsThere() {
    for (int p = 0; p < 3; p++) {
      int of = p;
      Twins.refused("again " + p, -1, x -> x.tale(of));
      Twins.refused(RowEdgeTest::longTale, "again " + p + " of 12", -1, x -> x.tale(of));
    }
  }

  static void promise30_noneSuch() {
    for (int p : new int[] {-1, 7, 24, LEAST, MOST}) Twins.refused("tale " + p, -1, x -> x.tale(p));
  }

  static void promise30_alsoOnesThatAreNotHung() {
    GalleryWalls x = Twins.whole();
    Due.is("in the STORE", 4, x.tale(3));
    Due.is("AWAY", 5, x.tale(5));
    Due.is("BACK", 6, x.tale(6));
  }

  // ---- promise 31: route

  static void promise31_asManyAs10() {
    GalleryWalls x = Due.rooms(10);
    for (int i = 0; i < 10; i++) Due.is("route", i + 1, x.route(9 - i));
    Due.is("count", 10, x.count(8));
    for (int i = 0; i < 10; i++) Due.is("there is no more", -1, x.route(i));
  }

  static void promise31_itIsThere() {
    Twins.refused("again 1", -1, x -> x.route(1));
    Twins.refused("again 0", -1, x -> x.route(0));
  }

  static void promise31_noneSuch() {
    for (int room : new int[] {-1, 4, 10, LEAST, MOST}) Twins.refused("route " + room, -1, x -> x.route(room));
  }

  static void promise31_alsoOneThatIsShut() { Due.is("SHUT", 3, Twins.whole().route(3)); }

  // ---- promise 32: breaks

  /** Three walls in room 0 but the second in room 1; so many pictures. */
  private static GalleryWalls walls(int pictures) {
    GalleryWalls x = Due.rooms(2);
    x.wall(0, 3000, 300, 999);
    x.wall(1, 3000, 300, 999);
    x.wall(0, 3000, 300, 999);
    for (int i = 0; i < pictures; i++) x.picture(50, 50, 1, 0, 0, 0, 0);
    return x;
  }

  private static void breaks(String what, GalleryWalls x, int want, int... row) {
    Due.is(what, want, x.breaks());
    Due.row(what, x, row);
  }

  static void promise32_noTaleOrNoRoute() {
    GalleryWalls x = walls(2);
    x.hang(0, 0, 0);
    breaks("neither", x, 0);
    x.tale(0);
    x.on(0);
    breaks("no ROUTE", x, 0);
    x.route(0);
    breaks("both", x, 0, 0);
    GalleryWalls y = walls(1);
    y.route(0);
    y.hang(0, 0, 0);
    y.on(0);
    breaks("no TALE", y, 0);
  }

  static void promise32_onlyThoseThatAreMet() {
    GalleryWalls x = walls(4);
    for (int i = 0; i < 4; i++) x.tale(i);
    x.route(0);
    x.hang(1, 1, 0);
    x.hang(2, 0, 0);
    x.send(3);
    breaks("in the STORE, in another ROOM, HUNG, AWAY", x, 0, 2);
    x.route(1);
    breaks("with the other ROOM", x, 1, 1);
  }

  static void promise32_onlyThoseOfTheTale() {
    GalleryWalls x = walls(3);
    x.tale(2);
    x.tale(0);
    x.route(0);
    x.hang(0, 0, 200);
    x.hang(1, 0, 100);
    x.hang(2, 0, 0);
    breaks("1 is not told", x, 0, 2, 0);
  }

  static void promise32_inTheOrderOfTheRoute() {
    for (int first = 0; first < 2; first++) {
      GalleryWalls x = walls(2);
      x.tale(0);
      x.tale(1);
      x.hang(0, 1, 0);
      x.hang(1, 0, 500);
      x.route(first);
      x.route(1 - first);
      if (first == 1) breaks("ROOM 1 first", x, 0, 0, 1);
      else breaks("ROOM 0 first", x, 1, 0);
    }
  }

  static void promise32_inTheOrderOfWallsThenOfX() {
    GalleryWalls x = walls(3);
    for (int i = 0; i < 3; i++) x.tale(i);
    x.route(0);
    x.hang(0, 0, 2950);
    x.hang(1, 2, 0);
    x.hang(2, 2, 100);
    breaks("WALL 0, then 2", x, 0, 0, 1, 2);
    x.hang(2, 0, 0);
    breaks("2 is first", x, 1, 0, 1);
    x.hang(1, 2, 2950);
    x.hang(0, 2, 2000);
    breaks("the greatest x of the last WALL", x, 1, 0, 1);
  }

  static void promise32_theLastWallOfTheLastRoomOfTheRoute() {
    GalleryWalls x = Due.rooms(10);
    for (int i = 0; i < 16; i++) x.wall(i % 10, 3000, 300, 99);
    for (int i = 0; i < 4; i++) Due.pic(x, 50, 50, 1);
    int[] at = {15, 14, 5, 4};
    for (int i = 0; i < 4; i++) {
      x.tale(i);
      x.hang(i, at[i], 2950);
    }
    for (int room = 9; room >= 0; room--) x.route(room);
    breaks("WALLS 15, 14 of ROOMS 5, 4, and 5, 4 of these, too", x, 2, 0, 1);
  }

  static void promise32_noneToBeLeftOut() {
    GalleryWalls x = walls(12);
    int[] all = new int[12];
    for (int i = 0; i < 12; i++) {
      all[i] = 11 - i;
      x.tale(11 - i);
      x.hang(11 - i, 0, 100 * i);
    }
    x.route(0);
    breaks("twelve in order", x, 0, all);
  }

  static void promise32_allButOneToBeLeftOut() {
    GalleryWalls x = walls(12);
    for (int i = 0; i < 12; i++) {
      x.tale(i);
      x.hang(i, 0, 2000 - 100 * i);
    }
    x.route(0);
    breaks("twelve against the order: the first of the TALE stays", x, 11, 0);
  }

  static void promise32_ofAsManyTheFirstPlacesInTheTale() {
    GalleryWalls x = walls(6);
    int[] tale = {3, 5, 0, 4, 1, 2};
    int[] met = {0, 4, 3, 5, 1, 2};
    for (int p : tale) x.tale(p);
    for (int i = 0; i < 6; i++) x.hang(met[i], 0, 100 * i);
    x.route(0);
    breaks("3 5 1 2, or 0 4 1 2", x, 2, 3, 5, 1, 2);
    x.hang(1, 2, 100);
    x.hang(2, 2, 0);
    breaks("3 5 1, 3 5 2, 0 4 1, or 0 4 2", x, 3, 3, 5, 1);
    x.hang(5, 2, 500);
    breaks("0 4 1, or 0 4 2", x, 3, 0, 4, 1);
  }
}
