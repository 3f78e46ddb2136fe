/** The edges of promises 36 to 38, each sentence by itself: moves, and the nights for them. */
public final class MoveEdgeTest {
  private static final int LEAST = Integer.MIN_VALUE;
  private static final int MOST = Integer.MAX_VALUE;

  public static void main(String[] args) throws Exception { Due.each(MoveEdgeTest.class); }

  /** Rooms 0 to 9 with a wall each, 500 long, bearing 100; pictures of 100 by 50, weight 10, in the store. */
  private static GalleryWalls house(int pictures) {
    GalleryWalls x = Due.rooms(10);
    for (int i = 0; i < 10; i++) x.wall(i, 500, 300, 100);
    for (int i = 0; i < pictures; i++) Due.pic(x, 100, 50, 10);
    return x;
  }

  /** The whole gallery without its moves. */
  private static GalleryWalls idle() {
    GalleryWalls x = Twins.whole();
    x.done();
    return x;
  }

  // ---- promise 36: move

  static void promise36_numbersFrom0ToThe8th() {
    GalleryWalls x = house(8);
    for (int i = 0; i < 8; i++) {
      Due.is("move", i, x.move(7 - i, i, 0));
      Due.is("count", i + 1, x.count(9));
    }
  }

  static void promise36_moreThan8AreRefused() {
    Twins.refused(() -> {
      GalleryWalls x = Due.rooms(2);
      for (int i = 0; i < 2; i++) x.wall(i, 500, 300, 100);
      for (int i = 0; i < 9; i++) Due.pic(x, 20, 20, 1);
      for (int i = 0; i < 8; i++) x.move(i, i / 4, 120 * (i % 4));
      return x;
    }, "a ninth one", -1, x -> x.move(8, 1, 480));
  }

  static void promise36_xFromMinus1000To4000() {
    GalleryWalls x = house(2);
    Due.is("-1000", 0, x.move(0, 0, -1000));
    Due.is("4000", 1, x.move(1, 0, 4000));
    for (int at : new int[] {-1001, 4001, LEAST, MOST}) Twins.refused("x " + at, -1, y -> y.move(4, 0, at));
  }

  static void promise36_noneSuch() {
    for (int p : new int[] {-1, 7, 24, LEAST, MOST}) Twins.refused("PICTURE " + p, -1, x -> x.move(p, 0, 0));
    for (int w : new int[] {-1, 3, 16, LEAST, MOST}) Twins.refused("WALL " + w, -1, x -> x.move(4, w, 0));
  }

  static void promise36_itHasOne() {
    Twins.refused("the same", -1, x -> x.move(3, 0, 300));
    Twins.refused("another place", -1, x -> x.move(2, 2, 100));
  }

  static void promise36_itHadOneThatIsDone() {
    GalleryWalls x = house(1);
    x.move(0, 0, 0);
    x.done();
    Due.is("another one", 0, x.move(0, 1, 0));
  }

  static void promise36_awayOrBack() {
    Twins.refused("AWAY", -1, x -> x.move(5, 0, 300));
    Twins.refused("BACK", -1, x -> x.move(6, 0, 300));
  }

  static void promise36_alsoWhereItDoesNotFitNow() {
    GalleryWalls x = house(2);
    x.hang(0, 0, 0);
    Due.is("over another", 0, x.move(1, 0, 0));
    Due.is("where it hangs", 1, x.move(0, 0, 0));
    Due.is("nothing moves", 0, x.at(1, 0));
  }

  // ---- promise 37: nights

  private static void nights(String what, GalleryWalls x, int g, int r, int want, int... row) {
    Due.is(what, want, x.nights(g, r));
    Due.row(what, x, row);
  }

  static void promise37_gAndRFrom1To8() {
    nights("the least", house(0), 1, 1, 0);
    nights("the greatest", house(0), 8, 8, 0);
    for (int n : new int[] {0, 9, -1, LEAST, MOST}) {
      Twins.refused("g " + n, -1, x -> x.nights(n, 8));
      Twins.refused("r " + n, -1, x -> x.nights(8, n));
    }
  }

  static void promise37_noMoves() {
    GalleryWalls x = house(1);
    x.hang(0, 0, 0);
    x.on(0);
    nights("none", x, 1, 1, 0);
  }

  /** Eight moves from the store, four to wall 0 and four to wall 1. */
  private static GalleryWalls eight() {
    GalleryWalls x = house(8);
    for (int i = 0; i < 8; i++) x.move(i, i / 4, 120 * (i % 4));
    return x;
  }

  static void promise37_atMostGInOneNight() {
    nights("eight", eight(), 8, 8, 1, 0b11111111);
    nights("seven", eight(), 7, 8, 2, 0b00000001, 0b11111110);
    nights("four", eight(), 4, 8, 2, 0b00001111, 0b11110000);
    nights("three", eight(), 3, 8, 3, 0b00000011, 0b00011100, 0b11100000);
    nights("one", eight(), 1, 8, 8, 1, 2, 4, 8, 16, 32, 64, 128);
  }

  static void promise37_atMostRRoomsInOneNight() {
    nights("two", eight(), 8, 2, 1, 0b11111111);
    nights("one", eight(), 8, 1, 2, 0b00001111, 0b11110000);
  }

  static void promise37_roomsFromWhichAndToWhich() {
    GalleryWalls x = house(1);
    x.hang(0, 3, 0);
    x.move(0, 9, 0);
    nights("two ROOMS", x, 1, 2, 1, 1);
    Due.is("one ROOM", -2, x.nights(1, 1));
  }

  static void promise37_eightRoomsInOneNight() {
    GalleryWalls x = house(4);
    for (int i = 0; i < 4; i++) {
      x.hang(i, i, 0);
      x.move(i, i + 4, 0);
    }
    nights("eight ROOMS", x, 8, 8, 1, 0b1111);
    nights("seven ROOMS", x, 8, 7, 2, 0b0001, 0b1110);
  }

  static void promise37_theStoreIsNoRoom() {
    GalleryWalls x = house(2);
    x.move(0, 5, 0);
    x.move(1, 5, 200);
    nights("one ROOM", x, 2, 1, 1, 0b11);
  }

  static void promise37_withinOneRoom() {
    GalleryWalls x = house(2);
    x.hang(0, 5, 0);
    x.hang(1, 5, 120);
    x.move(0, 5, 400);
    x.move(1, 5, 0);
    nights("one ROOM", x, 2, 1, 1, 0b11);
    nights("one by one", x, 1, 1, 2, 0b01, 0b10);
  }

  static void promise37_inANightInSomeOrder() {
    GalleryWalls x = house(3);
    for (int i = 0; i < 3; i++) x.hang(i, i, 0);
    x.move(0, 1, 0);
    x.move(1, 2, 0);
    x.move(2, 3, 0);
    nights("the last one first", x, 3, 8, 1, 0b111);
    nights("two a NIGHT", x, 2, 8, 2, 0b100, 0b011);
    nights("one a NIGHT", x, 1, 8, 3, 0b100, 0b010, 0b001);
    nights("three ROOMS", x, 8, 3, 2, 0b100, 0b011);
  }

  static void promise37_theyWaitForOneAnother() {
    GalleryWalls x = house(2);
    x.hang(0, 0, 0);
    x.hang(1, 1, 0);
    x.move(0, 1, 0);
    x.move(1, 0, 0);
    x.on(0);
    Due.is("in a ring", -2, x.nights(8, 8));
    Due.row("the row stays", x, 0);
    x.store(1);
    nights("one is in the STORE", x, 8, 8, 1, 0b11);
  }

  /** Moves 0 and 1 go to wall 0, 2 and 3 from it; 2 waits for 1; with 0 done, 1 is too heavy until 2 or 3 is done. */
  static void promise37_whatIsDoneMayBeInTheWay() {
    GalleryWalls x = house(0);
    for (int weight : new int[] {30, 30, 30, 40, 30}) Due.pic(x, 100, 50, weight);
    x.hang(2, 0, 0);
    x.hang(3, 0, 120);
    x.hang(1, 1, 0);
    x.move(0, 0, 240);
    x.move(1, 0, 360);
    x.move(2, 1, 0);
    x.move(3, 2, 0);
    x.move(4, 3, 0);
    nights("0, 3 ahead of 1, 2 and 4", x, 2, 8, 3, 0b00001, 0b01010, 0b10100);
    nights("one by one", x, 1, 8, 5, 0b00001, 0b01000, 0b00010, 0b00100, 0b10000);
    nights("three a NIGHT: 1 and 2, then 0", x, 3, 8, 2, 0b00110, 0b11001);
    nights("all", x, 5, 8, 1, 0b11111);
  }

  static void promise37_theLeastBitsNightByNight() {
    GalleryWalls x = house(4);
    x.move(0, 0, 0);
    x.move(1, 1, 0);
    x.move(2, 0, 200);
    x.move(3, 1, 200);
    nights("by ROOMS", x, 8, 1, 2, 0b0101, 0b1010);
    nights("three a NIGHT", x, 3, 8, 2, 0b0001, 0b1110);
    nights("by both", x, 1, 1, 4, 1, 2, 4, 8);
  }

  static void promise37_fewestBeforeLeast() {
    GalleryWalls x = house(3);
    x.move(0, 0, 0);
    x.move(1, 1, 0);
    x.move(2, 1, 200);
    nights("ROOM 0, then ROOM 1", x, 2, 1, 2, 0b001, 0b110);
    GalleryWalls y = house(3);
    y.move(0, 0, 0);
    y.move(1, 1, 0);
    y.move(2, 0, 200);
    nights("0 and 2 in one NIGHT", y, 2, 1, 2, 0b010, 0b101);
  }

  static void promise37_1To4OfFits() {
    int[][] places = {{0, 1}, {400, 1}, {-1, -2}, {401, -2}};
    for (int[] p : places) {
      GalleryWalls x = house(1);
      x.move(0, 0, p[0]);
      Due.is("1: x " + p[0], p[1], x.nights(1, 1));
    }
    for (int height = 300; height <= 301; height++) {
      GalleryWalls x = house(0);
      Due.pic(x, 20, height, 10);
      x.move(0, 0, 0);
      Due.is("2: HEIGHT " + height, height == 300 ? 1 : -2, x.nights(1, 1));
    }
    for (int at = 119; at <= 120; at++) {
      GalleryWalls x = house(2);
      x.hang(0, 0, 0);
      x.move(1, 0, at);
      Due.is("3: x " + at, at == 120 ? 1 : -2, x.nights(1, 1));
    }
    for (int weight = 90; weight <= 91; weight++) {
      GalleryWalls x = house(1);
      Due.pic(x, 20, 20, weight);
      x.hang(0, 0, 0);
      x.move(1, 0, 200);
      Due.is("4: WEIGHT " + weight, weight == 90 ? 1 : -2, x.nights(1, 1));
    }
  }

  static void promise37_notFoesAndTerms() {
    GalleryWalls x = house(2);
    x.hang(1, 0, 200);
    x.tell(0, 1, 1);
    Due.term(x, "0", 0, 0);
    x.move(0, 0, 0);
    nights("5 and 6 are not so", x, 1, 1, 1, 1);
  }

  static void promise37_weightsThatWaitForOneAnother() {
    GalleryWalls x = house(0);
    Due.pic(x, 20, 20, 60);
    Due.pic(x, 20, 20, 41);
    x.hang(0, 0, 0);
    x.move(1, 0, 200);
    Due.is("too heavy together", -2, x.nights(8, 8));
    x.move(0, 1, 0);
    nights("the other goes first", x, 1, 8, 2, 0b10, 0b01);
    nights("in one NIGHT", x, 2, 8, 1, 0b11);
  }

  static void promise37_noneMayBeAwayOrBack() {
    Twins.refused(() -> {
      GalleryWalls x = Twins.whole();
      x.send(3);
      return x;
    }, "AWAY", -2, x -> x.nights(8, 8));
    Twins.refused(() -> {
      GalleryWalls x = Twins.whole();
      x.tell(3, 3, 0);
      x.step(1);
      return x;
    }, "BACK", -2, x -> x.nights(8, 8));
  }

  static void promise37_asItIsNow() {
    GalleryWalls x = house(4);
    x.hang(0, 3, 0);
    x.move(0, 4, 0);
    x.move(1, 4, 200);
    nights("from ROOM 3", x, 8, 2, 1, 0b11);
    Due.is("two ROOMS", -2, x.nights(8, 1));
    x.store(0);
    nights("from the STORE", x, 8, 1, 1, 0b11);
    x.hang(2, 4, 50);
    Due.is("the place is taken", -2, x.nights(8, 8));
    x.send(2);
    nights("free again", x, 8, 1, 1, 0b11);
    x.move(3, 5, 0);
    nights("one more", x, 8, 1, 2, 0b011, 0b100);
    x.done();
    nights("none", x, 8, 1, 0);
    x.move(0, 0, 0);
    nights("another one", x, 8, 2, 1, 0b1);
    x.move(1, 0, 200);
    nights("another two", x, 1, 2, 2, 0b01, 0b10);
    nights("in one NIGHT", x, 2, 2, 1, 0b11);
  }

  static void promise37_changesNothing() {
    GalleryWalls x = Twins.whole();
    Due.is("two NIGHTS", 2, x.nights(1, 8));
    Due.is("moves stay", 2, x.count(9));
    Due.is("WALL of 2", 1, x.at(2, 1));
    Due.is("3 in the STORE", 0, x.at(3, 0));
  }

  // ---- promise 38: done

  static void promise38_none() { Twins.refused(MoveEdgeTest::idle, "no MOVES", 0, GalleryWalls::done); }

  static void promise38_howManyAndNoneThen() {
    for (int n = 1; n <= 8; n++) {
      GalleryWalls x = house(8);
      for (int i = 0; i < n; i++) x.move(i, i, 10 * i);
      Due.is(n + " MOVES", n, x.done());
      Due.is("none then", 0, x.count(9));
      for (int i = 0; i < n; i++) {
        Due.is("WALL", i, x.at(i, 1));
        Due.is("x", 10 * i, x.at(i, 2));
      }
      Due.is("HUNG", n, x.count(6));
      Due.is("done again", 0, x.done());
    }
  }

  static void promise38_onceAllAreDone() {
    GalleryWalls x = house(2);
    x.hang(0, 0, 0);
    x.hang(1, 1, 0);
    x.move(0, 1, 0);
    x.move(1, 0, 0);
    Due.is("a ring", 2, x.done());
    Due.is("0", 1, x.at(0, 1));
    Due.is("1", 0, x.at(1, 1));
  }

  /** The whole gallery without moves, one more picture in the store, and a move of it. */
  private static GalleryWalls withMove(int width, int height, int weight, int at) {
    GalleryWalls x = idle();
    x.tell(3, 1, -1);
    Due.pic(x, width, height, weight);
    x.move(7, 2, at);
    return x;
  }

  private static void canNot(String what, int width, int height, int weight, int at) {
    Twins.refused(() -> withMove(width, height, weight, at), what, -2, GalleryWalls::done);
  }

  private static void can(String what, int width, int height, int weight, int at) {
    GalleryWalls x = withMove(width, height, weight, at);
    Due.is(what, 1, x.done());
    Due.is("x", at, x.at(7, 2));
  }

  static void promise38_1To4OfFits() {
    can("1: at the end", 50, 50, 5, 250);
    canNot("1: beyond it", 50, 50, 5, 251);
    canNot("1: ahead of it", 50, 50, 5, -1);
    can("2: just as high", 50, 300, 5, 200);
    canNot("2: too high", 50, 301, 5, 200);
    can("3: GAP away", 50, 50, 5, 100);
    canNot("3: nearer", 50, 50, 5, 99);
    can("4: as heavy", 50, 50, 25, 100);
    canNot("4: heavier", 50, 50, 26, 100);
  }

  static void promise38_notFoesAndTerms() {
    GalleryWalls x = house(2);
    x.hang(1, 0, 200);
    x.tell(0, 1, 1);
    Due.term(x, "0", 0, 0);
    x.move(0, 0, 0);
    Due.is("5 and 6 are not so", 1, x.done());
    Due.is("HUNG", 1, x.at(0, 0));
  }

  static void promise38_oneThatCanNotHoldsAll() {
    Twins.refused(() -> {
      GalleryWalls x = Twins.whole();
      x.move(0, 1, 0);
      x.move(1, 0, 290);
      return x;
    }, "1 is too near 3", -2, GalleryWalls::done);
  }

  static void promise38_noneMayBeAwayOrBack() {
    Twins.refused(() -> {
      GalleryWalls x = Twins.whole();
      x.send(2);
      return x;
    }, "AWAY", -2, GalleryWalls::done);
    Twins.refused(() -> {
      GalleryWalls x = Twins.whole();
      x.tell(2, 3, 0);
      x.step(1);
      return x;
    }, "BACK", -2, GalleryWalls::done);
    GalleryWalls x = house(1);
    x.move(0, 0, 0);
    x.send(0);
    Due.is("AWAY", -2, x.done());
    x.store(0);
    Due.is("there again", 1, x.done());
  }

  static void promise38_tellsNoRow() {
    GalleryWalls x = Twins.whole();
    x.on(0);
    Due.is("done", 2, x.done());
    Due.row("as it was", x, 0, 1);
  }
}
