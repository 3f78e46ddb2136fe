/** The edges of promises 33 to 35, each sentence by itself: ways by doors for what is carried. */
public final class WayEdgeTest {
  private static final int LEAST = Integer.MIN_VALUE;
  private static final int MOST = Integer.MAX_VALUE;
  private static final int[] NO_PICTURE = {-1, 7, 24, LEAST, MOST};
  private static final int[] NO_ROOM = {-1, 4, 10, LEAST, MOST};

  public static void main(String[] args) throws Exception { Due.each(WayEdgeTest.class); }

  /** So many rooms in a row, a door between each two; picture 0 goes through all, picture 1 through none. */
  private static GalleryWalls inARow(int rooms) {
    GalleryWalls x = Due.rooms(rooms);
    for (int i = 1; i < rooms; i++) x.door(i - 1, i, 50, 100);
    Due.pic(x, 20, 20, 1);
    Due.pic(x, 101, 101, 1);
    return x;
  }

  // ---- promise 33: shut

  static void promise33_shutAndOpen() {
    GalleryWalls x = inARow(3);
    Due.yes("shut", x.shut(1, true));
    Due.is("SHUT", -2, x.way(0, 0, 2));
    Due.yes("open", x.shut(1, false));
    Due.is("not SHUT", 2, x.way(0, 0, 2));
  }

  static void promise33_againIsNotRefused() {
    GalleryWalls x = inARow(3);
    Due.yes("open at first", x.shut(1, false));
    Due.is("not SHUT", 2, x.way(0, 0, 2));
    Due.yes("shut", x.shut(1, true));
    Due.yes("shut again", x.shut(1, true));
    Due.is("SHUT", -2, x.way(0, 0, 2));
    Due.yes("open", x.shut(1, false));
    Due.is("opened once is open", 2, x.way(0, 0, 2));
  }

  static void promise33_theFirstAndTheLastRoom() {
    for (int room = 0; room < 10; room += 9) {
      GalleryWalls x = inARow(10);
      Due.yes("shut " + room, x.shut(room, true));
      for (int r = 0; r < 10; r++) Due.is("ROOM " + r, r == room ? -2 : 0, x.way(0, r, r));
    }
  }

  static void promise33_noneSuch() {
    for (int room : NO_ROOM) {
      Twins.no("shut " + room, x -> x.shut(room, true));
      Twins.no("open " + room, x -> x.shut(room, false));
    }
  }

  // ---- promise 34: way

  private static void passes(int width, int height, int doorWidth, int doorHeight, boolean is) {
    GalleryWalls x = Due.rooms(2);
    x.door(0, 1, doorWidth, doorHeight);
    Due.pic(x, width, height, 1);
    String what = width + " by " + height + " by a DOOR of " + doorWidth + " by " + doorHeight;
    Due.is(what, is ? 1 : -2, x.way(0, 0, 1));
    Due.is("back: " + what, is ? 1 : -2, x.way(0, 1, 0));
    Due.is("bars: " + what, is ? -2 : 0, x.bars(0, 0, 1));
  }

  static void promise34_standing() {
    passes(60, 120, 60, 120, true);
    passes(61, 120, 60, 120, false);
    passes(60, 121, 60, 120, false);
    passes(400, 600, 400, 600, true);
    passes(401, 600, 400, 600, false);
    passes(10, 10, 50, 100, true);
  }

  static void promise34_turned() {
    passes(120, 60, 60, 120, true);
    passes(121, 60, 60, 120, false);
    passes(120, 61, 60, 120, false);
    passes(600, 400, 400, 600, true);
    passes(600, 401, 400, 600, false);
    passes(600, 399, 400, 600, true);
  }

  static void promise34_neitherStandingNorTurned() {
    passes(61, 61, 60, 120, false);
    passes(60, 60, 60, 120, true);
    passes(121, 10, 60, 120, false);
    passes(10, 121, 60, 120, false);
    passes(800, 800, 400, 600, false);
  }

  static void promise34_aDoorThatIsWiderThanHigh() {
    passes(200, 100, 200, 100, true);
    passes(100, 200, 200, 100, true);
    passes(201, 100, 200, 100, false);
    passes(101, 101, 200, 100, false);
  }

  static void promise34_fromARoomToItself() {
    GalleryWalls x = inARow(3);
    for (int p = 0; p < 2; p++) {
      Due.is("no DOOR", 0, x.way(p, 2, 2));
      Due.row("that ROOM alone", x, 2);
    }
  }

  static void promise34_fromAShutRoomToItself() {
    GalleryWalls x = inARow(3);
    x.shut(2, true);
    Due.is("SHUT", -2, x.way(0, 2, 2));
  }

  static void promise34_asManyAs9Doors() {
    GalleryWalls x = inARow(10);
    Due.is("0 to 9", 9, x.way(0, 0, 9));
    Due.row("0 to 9", x, 0, 1, 2, 3, 4, 5, 6, 7, 8, 9);
    Due.is("9 to 0", 9, x.way(0, 9, 0));
    Due.row("9 to 0", x, 9, 8, 7, 6, 5, 4, 3, 2, 1, 0);
  }

  static void promise34_theFewestDoors() {
    GalleryWalls x = inARow(6);
    x.door(5, 0, 50, 100);
    Due.is("round about", 1, x.way(0, 0, 5));
    Due.row("round about", x, 0, 5);
    Due.is("three either way: the first", 3, x.way(0, 0, 3));
    Due.row("three either way: the first", x, 0, 1, 2, 3);
    Due.is("back", 3, x.way(0, 3, 0));
    Due.row("back", x, 3, 2, 1, 0);
  }

  static void promise34_ofAsFewTheFirst() {
    GalleryWalls x = Due.rooms(7);
    int[][] doors = {{0, 5}, {0, 4}, {5, 2}, {4, 3}, {4, 1}, {1, 6}, {2, 6}, {3, 6}};
    for (int[] d : doors) x.door(d[0], d[1], 50, 100);
    Due.pic(x, 20, 20, 1);
    Due.is("0 4 1 6", 3, x.way(0, 0, 6));
    Due.row("0 4 1 6", x, 0, 4, 1, 6);
    Due.is("6 1 4 0", 3, x.way(0, 6, 0));
    Due.row("6 1 4 0", x, 6, 1, 4, 0);
    x.shut(1, true);
    Due.is("0 4 3 6", 3, x.way(0, 0, 6));
    Due.row("0 4 3 6", x, 0, 4, 3, 6);
  }

  static void promise34_byDoorsOfEachRoomOnIt() {
    GalleryWalls x = Due.rooms(5);
    int[][] doors = {{2, 1}, {0, 1}, {3, 2}, {4, 3}};
    for (int[] d : doors) x.door(d[0], d[1], 50, 100);
    Due.pic(x, 20, 20, 1);
    Due.is("ROOM 0 is as near to the end, but not beside 3", 2, x.way(0, 3, 1));
    Due.row("ROOM 0 is as near to the end, but not beside 3", x, 3, 2, 1);
    Due.is("nor beside 4", 3, x.way(0, 4, 1));
    Due.row("nor beside 4", x, 4, 3, 2, 1);
    Due.is("to ROOM 0", 4, x.way(0, 4, 0));
    Due.row("to ROOM 0", x, 4, 3, 2, 1, 0);
  }

  static void promise34_anyDoorBetweenTwoRooms() {
    GalleryWalls x = Due.rooms(2);
    x.door(0, 1, 50, 100);
    Due.pic(x, 60, 60, 1);
    x.door(1, 0, 60, 100);
    x.door(0, 1, 50, 100);
    Due.is("the one between", 1, x.way(0, 0, 1));
    Due.row("the one between", x, 0, 1);
  }

  static void promise34_noDoor() {
    Twins.refused("no way to ROOM 3", -2, x -> {
      x.shut(3, false);
      int way = x.way(0, 0, 3);
      x.shut(3, true);
      return way;
    });
    GalleryWalls x = Due.rooms(2);
    Due.pic(x, 20, 20, 1);
    Due.is("none at all", -2, x.way(0, 0, 1));
  }

  static void promise34_notFromThroughOrToShutRooms() {
    GalleryWalls x = inARow(3);
    x.shut(0, true);
    Due.is("from", -2, x.way(0, 0, 2));
    Due.is("to", -2, x.way(0, 2, 0));
    Due.is("not by it", 1, x.way(0, 1, 2));
    x.shut(0, false);
    x.shut(1, true);
    Due.is("through", -2, x.way(0, 0, 2));
    x.door(0, 2, 50, 100);
    Due.is("past it", 1, x.way(0, 0, 2));
  }

  static void promise34_theRowStaysWhereThereIsNoWay() {
    Twins.refused("to a SHUT ROOM", -2, x -> x.way(0, 0, 3));
    Twins.refused("from a SHUT ROOM", -2, x -> x.way(0, 3, 0));
  }

  static void promise34_noneSuch() {
    for (int p : NO_PICTURE) Twins.refused("PICTURE " + p, -1, x -> x.way(p, 0, 1));
    for (int room : NO_ROOM) {
      Twins.refused("from " + room, -1, x -> x.way(0, room, 1));
      Twins.refused("to " + room, -1, x -> x.way(0, 1, room));
      Twins.refused("from and to " + room, -1, x -> x.way(0, room, room));
    }
  }

  static void promise34_alsoOfOnesThatAreAwayOrBack() {
    GalleryWalls x = Twins.whole();
    Due.is("AWAY", 1, x.way(5, 0, 1));
    Due.row("AWAY", x, 0, 1);
    Due.is("BACK", 1, x.way(6, 1, 0));
    Due.row("BACK", x, 1, 0);
  }

  // ---- promise 35: bars

  static void promise35_thereIsAWay() {
    Twins.refused("one DOOR", -2, x -> x.bars(0, 0, 1));
    Twins.refused("the same ROOM", -2, x -> x.bars(0, 2, 2));
  }

  static void promise35_theFirstDoorByNumber() {
    GalleryWalls x = Due.rooms(4);
    x.door(2, 3, 50, 100);
    x.door(0, 1, 50, 100);
    x.door(1, 2, 300, 300);
    x.door(1, 0, 50, 100);
    x.door(2, 3, 300, 300);
    Due.pic(x, 200, 200, 1);
    Due.is("0 to 2", 1, x.bars(0, 0, 2));
    Due.is("2 to 0", 1, x.bars(0, 2, 0));
    Due.is("0 to 3", 1, x.bars(0, 0, 3));
    Due.is("1 to 3", -2, x.bars(0, 1, 3));
  }

  static void promise35_theFirstAndTheLastOf20Doors() {
    for (int barring = 0; barring < 20; barring += 19) {
      GalleryWalls x = Due.rooms(3);
      for (int i = 0; i < 20; i++) x.door(i == barring ? 0 : 1, 2, 50, 100);
      Due.pic(x, 200, 200, 1);
      Due.is("DOOR " + barring, barring, x.bars(0, 0, 2));
    }
  }

  static void promise35_twoDoorsBar() {
    GalleryWalls x = inARow(3);
    Due.is("two in a row", -1, x.bars(1, 0, 2));
    Due.is("one of them", 0, x.bars(1, 0, 1));
    Due.is("the other", 1, x.bars(1, 1, 2));
  }

  static void promise35_none() {
    Twins.refused("no DOOR", -1, x -> x.bars(0, 0, 3));
    GalleryWalls x = Due.rooms(2);
    Due.pic(x, 20, 20, 1);
    Due.is("no DOOR at all", -1, x.bars(0, 0, 1));
  }

  static void promise35_shutRoomsAreNotOpenedByIt() {
    GalleryWalls x = inARow(3);
    x.shut(1, true);
    Due.is("through", -1, x.bars(0, 0, 2));
    Due.is("to", -1, x.bars(0, 0, 1));
    Due.is("from", -1, x.bars(0, 1, 2));
    Due.is("the same", -1, x.bars(0, 1, 1));
    Due.is("it does not PASS either", -1, x.bars(1, 0, 1));
  }

  static void promise35_noneSuch() {
    for (int p : NO_PICTURE) Twins.refused("PICTURE " + p, -1, x -> x.bars(p, 0, 1));
    for (int room : NO_ROOM) {
      Twins.refused("from " + room, -1, x -> x.bars(0, room, 1));
      Twins.refused("to " + room, -1, x -> x.bars(0, 1, room));
      Twins.refused("from and to " + room, -1, x -> x.bars(0, room, room));
    }
  }

  static void promise35_tellsNoRow() {
    Twins.refused(() -> {
      GalleryWalls x = Twins.whole();
      Due.pic(x, 150, 150, 1);
      return x;
    }, "DOOR 0 bars", 0, x -> x.bars(7, 0, 1));
  }
}
