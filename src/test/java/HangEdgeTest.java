/** The edges of promises 15 to 22, each sentence by itself: FITS, hanging, and what hangs where. */
public final class HangEdgeTest {
  private static final int LEAST = Integer.MIN_VALUE;
  private static final int MOST = Integer.MAX_VALUE;
  private static final int[] NO_PICTURE = {-1, 7, 24, LEAST, MOST};
  private static final int[] NO_WALL = {-1, 3, 16, LEAST, MOST};

  public static void main(String[] args) throws Exception { Due.each(HangEdgeTest.class); }

  /** Walls 0 and 1 in room 0, wall 2 in room 1; none but the numbers asked for is near an edge. */
  private static GalleryWalls house(int length, int height, int bears) {
    GalleryWalls x = Due.rooms(2);
    x.wall(0, length, height, bears);
    x.wall(0, 500, 300, 999);
    x.wall(1, 500, 300, 999);
    return x;
  }

  private static GalleryWalls house() { return house(500, 300, 999); }

  private static GalleryWalls house(int pictures) {
    GalleryWalls x = house();
    for (int i = 0; i < pictures; i++) Due.pic(x, 100, 50, 5);
    return x;
  }

  // ---- promise 15: fits

  static void promise15_noSuchPictureOrWall() {
    for (int p : NO_PICTURE) Twins.refused("PICTURE " + p, -1, x -> x.fits(p, 0, 130));
    for (int w : NO_WALL) Twins.refused("WALL " + w, -1, x -> x.fits(3, w, 130));
  }

  static void promise15_awayOrBack() {
    Twins.refused("AWAY", -1, x -> x.fits(5, 0, 130));
    Twins.refused("BACK", -1, x -> x.fits(6, 0, 130));
    Twins.refused("AWAY, beyond the WALL", -1, x -> x.fits(5, 0, -1));
  }

  static void promise15_changesNothing() {
    Twins.refused("fits", 0, x -> x.fits(3, 0, 300));
    Twins.refused("does not fit", 1, x -> x.fits(3, 0, -1));
  }

  static void promise15_1_fromTheWallsBeginToItsEnd() {
    GalleryWalls x = house(1);
    Due.is("at 0", 0, x.fits(0, 0, 0));
    Due.is("at -1", 1, x.fits(0, 0, -1));
    Due.is("at the end", 0, x.fits(0, 0, 400));
    Due.is("beyond the end", 1, x.fits(0, 0, 401));
  }

  static void promise15_1_asLongAsTheWall() {
    GalleryWalls x = house(100, 300, 999);
    Due.pic(x, 100, 50, 5);
    Due.pic(x, 101, 50, 5);
    Due.is("as long", 0, x.fits(0, 0, 0));
    Due.is("as long, at 1", 1, x.fits(0, 0, 1));
    Due.is("longer", 1, x.fits(1, 0, 0));
    Due.is("longer, at -1", 1, x.fits(1, 0, -1));
  }

  static void promise15_1_xThatWrapsAround() {
    GalleryWalls x = house(1);
    for (int at : new int[] {MOST, MOST - 99, MOST - 100, LEAST, LEAST + 400, 1 << 30}) Due.is("at " + at, 1, x.fits(0, 0, at));
  }

  private static void high(int eye, int height, int picture, int want) {
    GalleryWalls x = house(500, height, 999);
    x.set(0, eye);
    Due.pic(x, 20, picture, 5);
    Due.is(picture + " with EYE " + eye + " on a WALL of " + height, want, x.fits(0, 0, 0));
  }

  static void promise15_2_notAboveTwiceEye() {
    high(150, 900, 300, 0);
    high(150, 900, 301, 2);
    high(100, 900, 200, 0);
    high(100, 900, 201, 2);
    high(200, 900, 400, 0);
    high(200, 900, 401, 2);
    high(151, 900, 302, 0);
    high(151, 900, 303, 2);
  }

  static void promise15_2_notAboveTwiceTheHeightLessEye() {
    high(150, 250, 200, 0);
    high(150, 250, 201, 2);
    high(200, 300, 200, 0);
    high(200, 300, 201, 2);
    high(150, 155, 10, 0);
    high(150, 154, 10, 2);
    high(150, 251, 202, 0);
    high(150, 251, 203, 2);
  }

  static void promise15_2_aWallThatEndsBelowEye() {
    high(150, 150, 10, 2);
    high(150, 149, 10, 2);
    high(200, 100, 10, 2);
    high(100, 100, 10, 2);
    high(100, 105, 10, 0);
  }

  private static void apart(int gap, int x, int want) {
    GalleryWalls g = house(2);
    g.set(1, gap);
    g.hang(0, 0, 200);
    Due.is("at " + x + " with GAP " + gap, want, g.fits(1, 0, x));
  }

  static void promise15_3_gapAwayToTheLeft() {
    apart(20, 80, 0);
    apart(20, 81, 3);
    apart(0, 100, 0);
    apart(0, 101, 3);
    apart(99, 1, 0);
    apart(99, 2, 3);
  }

  static void promise15_3_gapAwayToTheRight() {
    apart(20, 320, 0);
    apart(20, 319, 3);
    apart(0, 300, 0);
    apart(0, 299, 3);
    apart(99, 399, 0);
    apart(99, 398, 3);
  }

  static void promise15_3_overTheOther() {
    apart(0, 200, 3);
    apart(0, 150, 3);
    apart(0, 250, 3);
    GalleryWalls x = house();
    Due.pic(x, 10, 50, 5);
    Due.pic(x, 300, 50, 5);
    x.set(1, 0);
    x.hang(0, 0, 150);
    Due.is("a wide one over a narrow one", 3, x.fits(1, 0, 0));
    Due.is("a wide one that ends there", 1, x.fits(1, 0, -150));
    x.store(0);
    x.hang(1, 0, 0);
    Due.is("a narrow one in a wide one", 3, x.fits(0, 0, 150));
  }

  static void promise15_3_onAnotherWallOrItself() {
    GalleryWalls x = house(2);
    x.hang(0, 0, 200);
    Due.is("on another WALL", 0, x.fits(1, 1, 200));
    Due.is("itself", 0, x.fits(0, 0, 210));
    x.store(0);
    Due.is("in the STORE", 0, x.fits(1, 0, 200));
  }

  static void promise15_3_betweenTwo() {
    GalleryWalls x = house(3);
    x.hang(0, 0, 0);
    x.hang(1, 0, 240);
    Due.is("just between", 0, x.fits(2, 0, 120));
    Due.is("a bit to the left", 3, x.fits(2, 0, 119));
    Due.is("a bit to the right", 3, x.fits(2, 0, 121));
  }

  static void promise15_4_notAboveWhatTheWallBears() {
    GalleryWalls x = house(500, 300, 30);
    Due.pic(x, 20, 20, 30);
    Due.pic(x, 20, 20, 31);
    Due.is("as heavy", 0, x.fits(0, 0, 0));
    Due.is("heavier", 4, x.fits(1, 0, 0));
  }

  static void promise15_4_allThatHangThere() {
    GalleryWalls x = house(500, 300, 30);
    int[] weights = {10, 15, 5, 6};
    for (int w : weights) Due.pic(x, 20, 20, w);
    x.hang(0, 0, 0);
    x.hang(1, 0, 100);
    Due.is("all as heavy", 0, x.fits(2, 0, 200));
    Due.is("all heavier", 4, x.fits(3, 0, 200));
    Due.is("on another WALL", 0, x.fits(3, 1, 200));
    x.hang(0, 1, 0);
    Due.is("one is gone", 0, x.fits(3, 0, 200));
  }

  static void promise15_4_itselfIsNotCountedTwice() {
    GalleryWalls x = house(500, 300, 30);
    Due.pic(x, 20, 20, 30);
    x.hang(0, 0, 0);
    Due.is("where it is", 0, x.fits(0, 0, 0));
    Due.is("elsewhere on its WALL", 0, x.fits(0, 0, 100));
  }

  static void promise15_4_theLeastAndTheGreatest() {
    GalleryWalls x = Due.rooms(1);
    x.wall(0, 500, 300, 1);
    x.wall(0, 3000, 300, 9999);
    Due.pic(x, 20, 20, 1);
    Due.pic(x, 20, 20, 2);
    Due.is("bears 1", 0, x.fits(0, 0, 0));
    Due.is("bears 1 alone", 4, x.fits(1, 0, 0));
    for (int i = 2; i < 12; i++) {
      Due.pic(x, 20, 20, 999);
      Due.is("999 more", 0, x.hang(i, 1, 100 * i));
    }
    Due.pic(x, 20, 20, 10);
    Due.pic(x, 20, 20, 9);
    Due.is("9999 with it", 0, x.fits(13, 1, 0));
    Due.is("10000 with it", 4, x.fits(12, 1, 0));
  }

  static void promise15_5_itsFoeInThatRoom() {
    GalleryWalls x = house(2);
    x.tell(0, 1, 1);
    Due.is("not HUNG", 0, x.fits(0, 0, 0));
    x.hang(1, 0, 200);
    Due.is("on the WALL", 5, x.fits(0, 0, 0));
    Due.is("on another WALL of the ROOM", 5, x.fits(0, 1, 0));
    Due.is("in another ROOM", 0, x.fits(0, 2, 0));
    x.send(1);
    Due.is("AWAY", 0, x.fits(0, 0, 0));
  }

  static void promise15_5_oneWhoseFoeItIs() {
    GalleryWalls x = house(3);
    x.tell(1, 1, 0);
    x.hang(1, 0, 200);
    Due.is("on the WALL", 5, x.fits(0, 0, 0));
    Due.is("on another WALL of the ROOM", 5, x.fits(0, 1, 0));
    Due.is("in another ROOM", 0, x.fits(0, 2, 0));
    Due.is("another one", 0, x.fits(2, 0, 0));
    x.tell(1, 1, -1);
    Due.is("no more", 0, x.fits(0, 0, 0));
  }

  static void promise15_5_bothHangAlready() {
    GalleryWalls x = house(2);
    x.hang(0, 0, 0);
    x.hang(1, 1, 0);
    x.tell(0, 1, 1);
    Due.is("where it is", 5, x.fits(0, 0, 0));
    Due.is("the other, where it is", 5, x.fits(1, 1, 0));
    Due.is("they stay HUNG", 2, x.count(6));
  }

  static void promise15_6_itsTermHoldsThere() {
    GalleryWalls x = house(2);
    Due.term(x, "w=1", 0, 0);
    Due.is("not there", 6, x.fits(0, 0, 0));
    Due.is("there", 0, x.fits(0, 1, 0));
    Due.is("the other's is not asked", 0, x.fits(1, 0, 0));
    Due.term(x, "1;1;0", 0, 0);
    Due.is("the last EXPRESSION", 6, x.fits(0, 1, 0));
  }

  static void promise15_6_asIfItWereNotHung() {
    GalleryWalls x = house(2);
    x.hang(1, 0, 200);
    Due.term(x, "k=1&n=1", 0, 0);
    Due.is("hang", 0, x.hang(0, 0, 0));
    Due.is("where it is", 0, x.fits(0, 0, 0));
    Due.is("behind", 0, x.fits(0, 0, 320));
  }

  static void promise15_theFirstThatIsNotSo() {
    GalleryWalls x = house(500, 300, 30);
    Due.pic(x, 20, 301, 31);
    Due.pic(x, 20, 300, 31);
    Due.pic(x, 20, 300, 20);
    Due.pic(x, 20, 300, 10);
    Due.pic(x, 20, 20, 20);
    x.hang(4, 0, 200);
    for (int p = 0; p < 4; p++) {
      Due.term(x, "0", p, 0);
      Due.is("FOE", -1, x.tell(p, 1, 4));
    }
    Due.is("1 of all", 1, x.fits(0, 0, -1));
    Due.is("2 to 6", 2, x.fits(0, 0, 200));
    Due.is("3 to 6", 3, x.fits(1, 0, 200));
    Due.is("4 to 6", 4, x.fits(2, 0, 0));
    Due.is("5 and 6", 5, x.fits(3, 0, 0));
    Due.is("6", 6, x.fits(3, 2, 0));
    Due.term(x, "1", 3, 0);
    Due.is("none", 0, x.fits(3, 2, 0));
  }

  // ---- promise 16: hang

  static void promise16_noSuchPictureOrWall() {
    for (int p : NO_PICTURE) Twins.refused("PICTURE " + p, -1, x -> x.hang(p, 0, 300));
    for (int w : NO_WALL) Twins.refused("WALL " + w, -1, x -> x.hang(3, w, 300));
  }

  static void promise16_awayOrBack() {
    Twins.refused("AWAY", -1, x -> x.hang(5, 0, 300));
    Twins.refused("BACK", -1, x -> x.hang(6, 0, 300));
  }

  private static GalleryWalls withOne(int height, int weight, String term) {
    GalleryWalls x = Twins.whole();
    Due.pic(x, 20, height, weight);
    Due.term(x, term, 7, 0);
    return x;
  }

  static void promise16_asFitsAndNothingChanges() {
    Twins.refused("1", 1, x -> x.hang(3, 0, 451));
    Twins.refused("1 of one that is HUNG", 1, x -> x.hang(0, 0, -1));
    Twins.refused(() -> withOne(301, 1, "1"), "2", 2, x -> x.hang(7, 0, 300));
    Twins.refused("3", 3, x -> x.hang(3, 0, 119));
    Twins.refused("3 of one that is HUNG", 3, x -> x.hang(0, 0, 40));
    Twins.refused(() -> withOne(20, 61, "1"), "4", 4, x -> x.hang(7, 0, 300));
    Twins.refused("5", 5, x -> x.hang(3, 1, 200));
    Twins.refused(() -> withOne(20, 60, "0"), "6", 6, x -> x.hang(7, 0, 300));
  }

  static void promise16_hungAtBothEnds() {
    GalleryWalls x = house(2);
    Due.is("at 0", 0, x.hang(0, 0, 0));
    Due.is("at the end", 0, x.hang(1, 0, 400));
    Due.is("x of the first", 0, x.at(0, 2));
    Due.is("x of the last", 400, x.at(1, 2));
    Due.is("both are there", 2, x.on(0));
    Due.row("both are there", x, 0, 1);
  }

  static void promise16_hungElsewhereThen() {
    GalleryWalls x = house(1);
    x.hang(0, 0, 100);
    Due.is("over itself", 0, x.hang(0, 0, 101));
    Due.is("x", 101, x.at(0, 2));
    Due.is("on another WALL", 0, x.hang(0, 2, 7));
    Due.is("off the first", 0, x.on(0));
    Due.is("its WALL", 2, x.at(0, 1));
    Due.is("HUNG once", 1, x.count(6));
  }

  static void promise16_aFullWall() {
    GalleryWalls x = house(6);
    x.set(1, 0);
    for (int i = 0; i < 5; i++) Due.is("hang", 0, x.hang(i, 0, 100 * i));
    Due.is("nothing is free", 0, x.of(0, 3));
    for (int at = 0; at <= 400; at += 50) Due.is("no place at " + at, 3, x.hang(5, 0, at));
  }

  // ---- promise 17: store

  static void promise17_fromAWall() {
    GalleryWalls x = house(1);
    x.hang(0, 0, 100);
    Due.yes("store", x.store(0));
    Due.is("in the STORE", 0, x.at(0, 0));
    Due.is("no WALL", -1, x.at(0, 1));
    Due.is("no x", -1, x.at(0, 2));
    Due.is("off its WALL", 0, x.on(0));
  }

  static void promise17_alsoOneThatWasAway() {
    GalleryWalls x = house(1);
    x.send(0);
    Due.yes("store", x.store(0));
    Due.is("in the STORE", 0, x.at(0, 0));
    Due.is("it FITS again", 0, x.fits(0, 0, 0));
  }

  static void promise17_itIsThere() {
    Twins.no("at first", x -> x.store(3));
    Twins.no(() -> {
      GalleryWalls x = Twins.whole();
      x.store(0);
      return x;
    }, "again", x -> x.store(0));
  }

  static void promise17_backIsForEver() { Twins.no("BACK", x -> x.store(6)); }

  static void promise17_noSuchPicture() {
    for (int p : NO_PICTURE) Twins.no("PICTURE " + p, x -> x.store(p));
  }

  // ---- promise 18: send

  static void promise18_fromTheStoreAndFromAWall() {
    GalleryWalls x = house(2);
    x.hang(1, 0, 100);
    for (int p = 0; p < 2; p++) {
      Due.yes("send", x.send(p));
      Due.is("AWAY", 2, x.at(p, 0));
      Due.is("no WALL", -1, x.at(p, 1));
      Due.is("no x", -1, x.at(p, 2));
      Due.is("no ROOM", -1, x.at(p, 6));
    }
    Due.is("off its WALL", 0, x.on(0));
    Due.is("none HUNG", 0, x.count(6));
  }

  static void promise18_itIsAway() { Twins.no("AWAY", x -> x.send(5)); }

  static void promise18_backIsForEver() { Twins.no("BACK", x -> x.send(6)); }

  static void promise18_noSuchPicture() {
    for (int p : NO_PICTURE) Twins.no("PICTURE " + p, x -> x.send(p));
  }

  // ---- promise 19: at

  private static void at(GalleryWalls x, int p, int... want) {
    for (int what = 0; what < 8; what++) Due.is("at(" + p + ", " + what + ")", want[what], x.at(p, what));
  }

  static void promise19_ofEachState() {
    GalleryWalls x = Twins.whole();
    x.set(2, 10);
    at(x, 3, 0, -1, -1, 0, -1, -1, -1, -1);
    at(x, 0, 1, 0, 0, 2 * (20 + 21 + 22 + 23 + 24 + 25 + 26 + 27), -1, 1, 0, 1);
    at(x, 1, 1, 0, 150, 2 * (20 + 21 + 22 + 23 + 24 + 25 + 26 + 27), 0, -1, 0, 0);
    at(x, 4, 1, 2, 0, 0, -1, -1, 2, -1);
    at(x, 5, 2, -1, -1, 0, -1, -1, -1, -1);
    at(x, 6, 3, -1, -1, 0, -1, -1, -1, -1);
  }

  static void promise19_noSuchPicture() {
    for (int p : NO_PICTURE)
      for (int what = 0; what < 8; what++) {
        int of = what;
        Twins.refused("at(" + p + ", " + what + ")", Twins.THROWN, x -> x.at(p, of));
      }
  }

  static void promise19_anotherWhat() {
    for (int what : new int[] {-1, 8, LEAST, MOST})
      for (int p = 0; p < 7; p++) {
        int of = p;
        Twins.refused("at(" + p + ", " + what + ")", Twins.THROWN, x -> x.at(of, what));
      }
  }

  static void promise19_hadStaysBehindTheWall() {
    GalleryWalls x = Twins.whole();
    int had = x.at(0, 3);
    x.send(0);
    Due.is("AWAY", had, x.at(0, 3));
    x.store(0);
    Due.is("in the STORE", had, x.at(0, 3));
    x.tell(0, 3, 0);
    x.step(1);
    Due.is("BACK", had, x.at(0, 3));
  }

  static void promise19_neighboursAreTheNextOnTheSameWall() {
    GalleryWalls x = house(4);
    x.set(1, 0);
    x.hang(2, 0, 0);
    x.hang(0, 0, 100);
    x.hang(3, 0, 400);
    x.hang(1, 1, 50);
    int[][] want = {{2, 3}, {-1, -1}, {-1, 0}, {0, -1}};
    for (int p = 0; p < 4; p++) {
      Due.is("left of " + p, want[p][0], x.at(p, 4));
      Due.is("right of " + p, want[p][1], x.at(p, 5));
    }
    x.store(0);
    Due.is("right of 2 then", 3, x.at(2, 5));
    Due.is("left of 3 then", 2, x.at(3, 4));
  }

  // ---- promise 20: on

  static void promise20_noneThere() {
    GalleryWalls x = house(1);
    x.hang(0, 0, 0);
    x.on(0);
    Due.is("none", 0, x.on(1));
    Due.row("none", x);
  }

  static void promise20_byX() {
    GalleryWalls x = house(4);
    x.hang(3, 0, 0);
    x.hang(1, 0, 390);
    x.hang(0, 0, 130);
    x.hang(2, 0, 260);
    Due.is("four", 4, x.on(0));
    Due.row("four", x, 3, 0, 2, 1);
  }

  static void promise20_allPicturesOnOneWall() {
    GalleryWalls x = Due.rooms(1);
    x.wall(0, 3000, 300, 9999);
    x.set(1, 0);
    int[] want = new int[24];
    for (int i = 0; i < 24; i++) {
      Due.pic(x, 10, 10, 1);
      x.hang(i, 0, 230 - 10 * i);
      want[i] = 23 - i;
    }
    Due.is("all", 24, x.on(0));
    Due.row("all", x, want);
  }

  static void promise20_noneSuch() {
    for (int w : NO_WALL) Twins.refused("WALL " + w, -1, x -> x.on(w));
  }

  // ---- promise 21: places

  static void promise21_noneOfThem() {
    GalleryWalls x = house();
    Due.pic(x, 501, 50, 5);
    x.on(0);
    Due.is("none", 0, x.places(0));
    Due.row("none", x);
  }

  static void promise21_atTheBegin() {
    GalleryWalls x = house();
    Due.pic(x, 500, 50, 5);
    Due.is("on all", 3, x.places(0));
    Due.row("on all", x, 0, 0, 1, 0, 2, 0);
  }

  static void promise21_theLeastXBehindAnother() {
    GalleryWalls x = house(3);
    x.hang(0, 0, 119);
    x.hang(1, 1, 120);
    Due.is("places", 3, x.places(2));
    Due.row("no place ahead, and just one", x, 0, 239, 1, 0, 2, 0);
  }

  static void promise21_theLeastXAtTheEnd() {
    GalleryWalls x = house(2);
    Due.pic(x, 400, 50, 5);
    Due.pic(x, 401, 50, 5);
    x.set(1, 0);
    x.hang(0, 0, 0);
    Due.is("just in", 3, x.places(2));
    Due.row("just in", x, 0, 100, 1, 0, 2, 0);
    Due.is("not in", 2, x.places(3));
    Due.row("not in", x, 1, 0, 2, 0);
  }

  static void promise21_theLeastXBetweenTwo() {
    GalleryWalls x = house(3);
    Due.pic(x, 80, 50, 5);
    Due.pic(x, 81, 50, 5);
    x.hang(0, 0, 0);
    x.hang(1, 0, 220);
    Due.is("just between", 3, x.places(3));
    Due.row("just between", x, 0, 120, 1, 0, 2, 0);
    Due.is("not between", 3, x.places(4));
    Due.row("not between", x, 0, 340, 1, 0, 2, 0);
  }

  static void promise21_betweenThoseThatAreNearerThanGap() {
    GalleryWalls x = house(3);
    x.set(1, 0);
    x.hang(0, 0, 0);
    x.hang(1, 0, 130);
    x.set(1, 50);
    Due.is("behind both", 3, x.places(2));
    Due.row("behind both", x, 0, 280, 1, 0, 2, 0);
  }

  static void promise21_asIfItWereNotHung() {
    GalleryWalls x = house(1);
    x.hang(0, 0, 50);
    Due.is("all", 3, x.places(0));
    Due.row("all", x, 0, 0, 1, 0, 2, 0);
    Due.is("it stays", 50, x.at(0, 2));
  }

  static void promise21_whereItsTermHolds() {
    GalleryWalls x = house(3);
    x.hang(0, 0, 100);
    x.hang(1, 0, 300);
    Due.term(x, "n=1;w=0", 2, 0);
    x.set(1, 0);
    Due.is("ahead of both", 1, x.places(2));
    Due.row("ahead of both", x, 0, 0);
    Due.term(x, "n=2", 2, 0);
    Due.is("between", 1, x.places(2));
    Due.row("between", x, 0, 200);
    x.tell(2, 0, 1);
    Due.term(x, "b&n=1", 2, 0);
    Due.is("behind", 1, x.places(2));
    Due.row("behind", x, 0, 400);
  }

  static void promise21_onAll16Walls() {
    GalleryWalls x = Due.rooms(1);
    int[] want = new int[32];
    for (int i = 0; i < 16; i++) {
      x.wall(0, 500, 300, 99);
      want[2 * i] = i;
    }
    Due.pic(x, 20, 20, 5);
    Due.is("on 16", 16, x.places(0));
    Due.row("on 16", x, want);
    Due.is("numbers of the ROW", 32, x.count(10));
  }

  static void promise21_noneAsFits() {
    for (int p : NO_PICTURE) Twins.refused("PICTURE " + p, -1, x -> x.places(p));
    Twins.refused("AWAY", -1, x -> x.places(5));
    Twins.refused("BACK", -1, x -> x.places(6));
  }

  // ---- promise 22: of

  static void promise22_ofAnEmptyWall() {
    int[] want = {0, 0, 0, 500};
    for (int what = 0; what < 4; what++) Due.is("of(1, " + what + ")", want[what], house(1).of(1, what));
  }

  static void promise22_weightsAndWhatIsFree() {
    GalleryWalls x = house(500, 300, 30);
    Due.pic(x, 100, 50, 7);
    Due.pic(x, 400, 50, 23);
    x.set(1, 0);
    x.hang(0, 0, 0);
    Due.is("WEIGHT of one", 7, x.of(0, 2));
    Due.is("free behind one", 400, x.of(0, 3));
    x.hang(1, 0, 100);
    Due.is("WEIGHTS, all that it BEARS", 30, x.of(0, 2));
    Due.is("nothing is free", 0, x.of(0, 3));
    Due.is("another WALL", 0, x.of(1, 2));
    x.send(1);
    Due.is("AWAY", 7, x.of(0, 2));
  }

  static void promise22_anotherWhat() {
    for (int what : new int[] {-1, 4, LEAST, MOST}) Twins.refused("what " + what, -1, x -> x.of(0, what));
  }

  static void promise22_noneSuch() {
    for (int w : NO_WALL)
      for (int what = 0; what < 4; what++) {
        int of = what;
        Twins.refused("WALL " + w + ", what " + what, -1, x -> x.of(w, of));
      }
  }
}
