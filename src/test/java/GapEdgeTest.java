/** The edges of promises 39 to 43, each sentence by itself: gaps, guards, counts and the ROW. */
public final class GapEdgeTest {
  private static final int LEAST = Integer.MIN_VALUE;
  private static final int MOST = Integer.MAX_VALUE;

  public static void main(String[] args) throws Exception { Due.each(GapEdgeTest.class); }

  // ---- promise 39: stand

  /** Pictures 0, 1 and 2 hang on wall 0 at 0, 120 and 240, each 100 wide; others of 100 by 50 are in the store. */
  private static GalleryWalls house(int pictures) {
    GalleryWalls x = Due.rooms(2);
    x.wall(0, 500, 300, 100);
    x.wall(1, 500, 300, 100);
    for (int i = 0; i < pictures; i++) x.picture(100, 50, 10, i % 8, 0, 0, 0);
    for (int i = 0; i < Math.min(3, pictures); i++) x.hang(i, 0, 120 * i);
    return x;
  }

  private static void stand(String what, GalleryWalls x, int picture, int... row) {
    Due.is(what, row.length, x.stand(picture));
    Due.row(what, x, row);
  }

  static void promise39_noneInTheStore() {
    GalleryWalls x = house(3);
    x.on(0);
    stand("none", x, 1);
    x = house(4);
    x.send(3);
    x.on(0);
    stand("AWAY", x, 1);
  }

  static void promise39_allOthersInTheStore() {
    GalleryWalls x = house(24);
    int[] want = new int[21];
    for (int i = 0; i < 21; i++) want[i] = i + 3;
    stand("21 by number", x, 1, want);
  }

  static void promise39_theFirstAndTheLastInTheStore() {
    GalleryWalls x = house(24);
    x.store(0);
    for (int i = 3; i < 23; i++) x.send(i);
    stand("0 and 23", x, 1, 0, 23);
    x.like(7, 2, 1);
    stand("23 and 0", x, 1, 23, 0);
  }

  static void promise39_theOneThatHangsThereIsNotTold() { stand("0 to 2 hang", house(4), 1, 3); }

  static void promise39_withTheirLeftSideWhereItHasIts() {
    GalleryWalls x = house(3);
    Due.pic(x, 100, 50, 10);
    Due.pic(x, 101, 50, 10);
    Due.pic(x, 10, 50, 10);
    stand("just as wide, and less", x, 1, 3, 5);
    stand("to the end of the WALL", x, 2, 3, 4, 5);
    Due.pic(x, 260, 50, 10);
    Due.pic(x, 261, 50, 10);
    stand("just to the end", x, 2, 3, 4, 5, 6);
  }

  static void promise39_allOfFits() {
    GalleryWalls x = house(3);
    Due.pic(x, 50, 300, 10);
    Due.pic(x, 50, 301, 10);
    Due.pic(x, 50, 50, 80);
    Due.pic(x, 50, 50, 81);
    Due.pic(x, 50, 50, 10);
    Due.pic(x, 50, 50, 10);
    Due.pic(x, 50, 50, 10);
    x.tell(7, 1, 0);
    Due.term(x, "k=3", 8, 0);
    Due.term(x, "k=2;n=2", 9, 0);
    stand("2: 3, 4: 5, and 6: 9", x, 1, 3, 5, 9);
  }

  static void promise39_wereItInTheStore() {
    GalleryWalls x = house(4);
    x.tell(3, 1, 1);
    stand("its FOE hangs there, only it", x, 1, 3);
    stand("its FOE hangs beside", x, 0);
    Due.is("it still hangs", 1, x.at(1, 0));
    Due.is("where it was", 120, x.at(1, 2));
  }

  static void promise39_byTheSumOfLikingsWithTheNeighboursThere() {
    GalleryWalls x = house(7);
    x.like(3, 0, -99);
    x.like(3, 2, -99);
    x.like(4, 0, 1);
    x.like(5, 2, 2);
    x.like(6, 0, 99);
    x.like(6, 2, 99);
    x.like(3, 1, 99);
    stand("198, 2, 1, -198", x, 1, 6, 5, 4, 3);
    stand("to the right of 1 alone", x, 2, 3, 4, 5, 6);
    stand("to the left of 1 alone", x, 0, 3, 4, 5, 6);
  }

  static void promise39_thenByNumber() {
    GalleryWalls x = house(8);
    x.like(4, 0, 5);
    x.like(6, 2, 5);
    x.like(7, 0, 2);
    x.like(7, 2, 3);
    x.like(5, 0, -1);
    stand("5, 5, 5, 0, -1", x, 1, 4, 6, 7, 3, 5);
  }

  static void promise39_anyOrderOfSums() {
    int[][] sums = {{5, 9, 3, 7}, {1, 2, 3, 4}, {4, 3, 2, 1}, {-3, -1, -2, -9}, {0, 5, 0, 5}, {2, 1, 3, 0}};
    int[][] want = {{4, 6, 3, 5}, {6, 5, 4, 3}, {3, 4, 5, 6}, {4, 5, 3, 6}, {4, 6, 3, 5}, {5, 3, 4, 6}};
    GalleryWalls x = house(7);
    for (int k = 0; k < sums.length; k++) {
      for (int i = 0; i < 4; i++) x.like(i + 3, 2, sums[k][i]);
      stand("sums " + k, x, 1, want[k]);
    }
  }

  static void promise39_withoutANeighbour() {
    GalleryWalls x = Due.rooms(1);
    x.wall(0, 500, 300, 100);
    for (int i = 0; i < 3; i++) x.picture(100, 50, 10, i, 0, 0, 0);
    x.like(2, 0, 9);
    x.hang(0, 0, 0);
    stand("by number alone", x, 0, 1, 2);
  }

  static void promise39_notHung() {
    Twins.refused("in the STORE", -1, x -> x.stand(3));
    Twins.refused("AWAY", -1, x -> x.stand(5));
    Twins.refused("BACK", -1, x -> x.stand(6));
  }

  static void promise39_noneSuch() {
    for (int p : new int[] {-1, 7, 24, LEAST, MOST}) Twins.refused("PICTURE " + p, -1, x -> x.stand(p));
  }

  // ---- promise 40: sight

  static void promise40_itsOwnRoom() {
    for (int w = 0; w < 3; w++) {
      int wall = w;
      Twins.no("WALL " + w, x -> x.sight(wall, wall));
    }
  }

  static void promise40_noneSuch() {
    for (int room : new int[] {-1, 4, 10, 32, LEAST, MOST}) Twins.no("ROOM " + room, x -> x.sight(room, 0));
    for (int wall : new int[] {-1, 3, 16, LEAST, MOST}) Twins.no("WALL " + wall, x -> x.sight(0, wall));
  }

  static void promise40_theFirstAndTheLastRoomAndWall() {
    GalleryWalls x = Due.rooms(10);
    for (int i = 0; i < 16; i++) x.wall(5, 500, 300, 99);
    for (int i = 0; i < 2; i++) x.picture(100, 50, 10, 0, 0, 0, 0);
    x.hang(0, 0, 0);
    x.hang(1, 15, 0);
    Due.yes("WALL 0 from ROOM 0", x.sight(0, 0));
    Due.yes("WALL 15 from ROOM 9", x.sight(9, 15));
    Due.is("ROOM 5 sees both", 1, x.guard(0));
    Due.row("ROOM 5 sees both", x, 1 << 5);
    Due.yes("WALL 0 from ROOM 9", x.sight(9, 0));
    Due.is("so does ROOM 9, but 5 is less", 1, x.guard(0));
    Due.row("so does ROOM 9, but 5 is less", x, 1 << 5);
    Due.yes("WALL 15 from ROOM 0", x.sight(0, 15));
    Due.is("so does ROOM 0", 1, x.guard(0));
    Due.row("so does ROOM 0", x, 1);
  }

  static void promise40_againIsNotRefused() {
    GalleryWalls x = Twins.whole();
    Due.yes("again", x.sight(1, 0));
    Due.yes("and again", x.sight(1, 0));
    Due.is("WALLS 0 and 1 from ROOM 1, WALL 2", 2, x.guard(0));
    Due.row("WALLS 0 and 1 from ROOM 1, WALL 2", x, 0b110);
  }

  static void promise40_notTheOtherWay() {
    GalleryWalls x = Due.rooms(2);
    x.wall(0, 500, 300, 99);
    x.wall(1, 500, 300, 99);
    for (int i = 0; i < 2; i++) x.picture(100, 50, 10, 0, 0, 0, 0);
    x.hang(0, 0, 0);
    x.hang(1, 1, 0);
    x.sight(1, 0);
    Due.is("from ROOM 1 alone", 1, x.guard(0));
    Due.row("from ROOM 1 alone", x, 0b10);
  }

  // ---- promise 41: guard

  /** Ten rooms with a wall each, and a picture on each wall, of value 0, 111 .. 999. */
  private static GalleryWalls tenRooms() {
    GalleryWalls x = Due.rooms(10);
    for (int i = 0; i < 10; i++) {
      x.wall(i, 500, 300, 99);
      x.picture(100, 50, 10, 0, 0, 111 * i, 0);
      x.hang(i, i, 0);
    }
    return x;
  }

  private static void guard(String what, GalleryWalls x, int v, int want, int bits) {
    Due.is(what, want, x.guard(v));
    Due.row(what, x, bits);
  }

  static void promise41_vFrom0To999() {
    guard("0", tenRooms(), 0, 10, 0b1111111111);
    guard("999", tenRooms(), 999, 1, 1 << 9);
    for (int v : new int[] {-1, 1000, LEAST, MOST}) Twins.refused("v " + v, -1, x -> x.guard(v));
  }

  static void promise41_ofValueVOrMore() {
    guard("888", tenRooms(), 888, 2, 0b1100000000);
    guard("889", tenRooms(), 889, 1, 0b1000000000);
    guard("1", tenRooms(), 1, 9, 0b1111111110);
    guard("111", tenRooms(), 111, 9, 0b1111111110);
    guard("112", tenRooms(), 112, 8, 0b1111111100);
  }

  static void promise41_noneToBeSeen() {
    guard("nothing there", new GalleryWalls(), 0, 0, 0);
    guard("rooms alone", Due.rooms(10), 999, 0, 0);
    GalleryWalls x = tenRooms();
    x.send(9);
    guard("AWAY", x, 999, 0, 0);
    x.store(9);
    guard("in the STORE", x, 889, 0, 0);
  }

  static void promise41_ofAsFewTheLeast() {
    GalleryWalls x = tenRooms();
    x.sight(0, 9);
    guard("ROOM 0 or 9", x, 999, 1, 1);
    x.sight(3, 8);
    guard("8 or 3, and 9 or 0", x, 888, 2, 0b1001);
    x.sight(9, 8);
    guard("9 alone", x, 888, 1, 1 << 9);
    x.sight(4, 8);
    x.sight(4, 9);
    guard("4 or 9 alone", x, 888, 1, 1 << 4);
  }

  static void promise41_fewestBeforeLeast() {
    GalleryWalls x = tenRooms();
    x.sight(0, 8);
    x.sight(1, 9);
    guard("0 and 1", x, 888, 2, 0b11);
    x.sight(9, 8);
    guard("9 alone", x, 888, 1, 1 << 9);
  }

  static void promise41_shutRoomsToo() {
    GalleryWalls x = tenRooms();
    x.shut(9, true);
    guard("SHUT", x, 999, 1, 1 << 9);
  }

  // ---- promise 42: count

  static void promise42_anotherWhat() {
    for (int what : new int[] {-1, 16, LEAST, MOST}) Twins.refused("what " + what, -1, x -> x.count(what));
  }

  static void promise42_eachOfThem() {
    int[] want = {4, 3, 3, 7, 2, 2, 4, 3, 2, 2, 2, 8, 10, 17, 150, 20};
    for (int what = 0; what < 16; what++) {
      int of = what;
      Twins.refused("count " + what, want[what], x -> x.count(of));
    }
  }

  static void promise42_theMostOfEach() {
    GalleryWalls x = tenRooms();
    for (int i = 10; i < 16; i++) x.wall(0, 500, 300, 99);
    for (int i = 0; i < 20; i++) x.door(0, 1, 100, 200);
    for (int i = 10; i < 24; i++) Due.pic(x, 20, 20, 1);
    for (int i = 10; i < 24; i++) x.hang(i, 10 + (i - 10) / 3, 100 * (i % 3));
    for (int i = 0; i < 12; i++) x.tale(i);
    for (int i = 0; i < 10; i++) x.route(i);
    for (int i = 0; i < 8; i++) x.move(i, 15, 30 * i);
    int[] want = {10, 20, 16, 24, 0, 0, 24, 12, 10, 8, 0, 0, 10, 17, 150, 20};
    for (int what = 0; what < 16; what++) Due.is("count " + what, want[what], x.count(what));
    x.store(0);
    x.send(1);
    Due.is("HUNG ones alone", 22, x.count(6));
  }

  // ---- promise 43: row

  static void promise43_noNumberYet() {
    GalleryWalls x = new GalleryWalls();
    for (int i : new int[] {0, -1, 1, LEAST, MOST}) Due.thrown("row " + i, () -> x.row(i));
  }

  static void promise43_theFirstAndTheLast() {
    GalleryWalls x = Twins.whole();
    Due.is("first", 0, x.row(0));
    Due.is("last", 1, x.row(1));
  }

  static void promise43_noneSuch() {
    for (int i : new int[] {-1, 2, 3, 32, LEAST, MOST}) Twins.refused("row " + i, Twins.THROWN, x -> x.row(i));
  }

  static void promise43_aShorterRowHidesTheLongerOne() {
    GalleryWalls x = Twins.whole();
    x.places(4);
    x.on(1);
    Due.is("one number", 2, x.row(0));
    Due.thrown("no second one", () -> x.row(1));
    x.nights(8, 8);
    Due.is("one NIGHT", 3, x.row(0));
    x.store(2);
    x.on(1);
    Due.thrown("no first one", () -> x.row(0));
  }

  static void promise43_aNumberBelow0ThatTellsWhyLeavesTheRow() {
    Twins.refused("way: -2", -2, x -> x.way(0, 0, 3));
    Twins.refused(() -> {
      GalleryWalls x = Twins.whole();
      x.send(3);
      return x;
    }, "nights: -2", -2, x -> x.nights(8, 8));
    Twins.refused("on: NONE", -1, x -> x.on(3));
    Twins.refused("places: NONE", -1, x -> x.places(5));
    Twins.refused("stand: NONE", -1, x -> x.stand(3));
    Twins.refused("guard: NONE", -1, x -> x.guard(1000));
    Twins.refused("best: thrown", Twins.THROWN, x -> x.best(0, 0));
  }

  static void promise43_callsThatTellNoRowLeaveIt() {
    GalleryWalls x = Twins.whole();
    x.fits(3, 0, 300);
    x.why(4, 0, 0);
    x.owed(2, 2);
    x.bars(0, 0, 3);
    x.lay();
    x.step(1);
    x.hang(3, 1, 200);
    x.store(3);
    x.done();
    x.room();
    Due.row("told by on(0) at first", x, 0, 1);
  }
}
