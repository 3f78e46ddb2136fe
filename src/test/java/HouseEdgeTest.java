/** The edges of promises 1 to 9, each sentence by itself: the house. */
public final class HouseEdgeTest {
  private static final int LEAST = Integer.MIN_VALUE;
  private static final int MOST = Integer.MAX_VALUE;

  public static void main(String[] args) throws Exception { Due.each(HouseEdgeTest.class); }

  // ---- promise 1: a new object

  static void promise1_nothingIsThere() {
    GalleryWalls x = new GalleryWalls();
    for (int what : new int[] {0, 1, 2, 3, 4, 6, 7, 8, 9, 10, 11}) Due.is("count " + what, 0, x.count(what));
    Due.thrown("at(0, 0)", () -> x.at(0, 0));
    Due.row("no number told", x);
  }

  static void promise1_nightIs0() {
    GalleryWalls x = new GalleryWalls();
    Due.is("NOW", 0, x.count(5));
    Due.is("step(0)", 0, x.step(0));
  }

  static void promise1_numbersAtFirst() {
    GalleryWalls x = new GalleryWalls();
    Due.is("FIRST", 10, x.count(12));
    Due.is("LAST", 17, x.count(13));
    Due.is("EYE", 150, x.count(14));
    Due.is("GAP", 20, x.count(15));
  }

  static void promise1_callsOfANewObjectFindNothing() {
    GalleryWalls x = new GalleryWalls();
    Due.is("door", -1, x.door(0, 1, 100, 200));
    Due.is("wall", -1, x.wall(0, 100, 200, 50));
    Due.is("light", -1, x.light(0, 0, 0, 0, 0));
    Due.no("blind", x.blind(0, 0, 0));
    Due.is("tell", -2, x.tell(0, 0, -1));
    Due.is("term", -100, x.term(0, 0));
    Due.is("force", -1, x.force(0));
    Due.is("why", -1, x.why(0, 0, 0));
    Due.is("fits", -1, x.fits(0, 0, 0));
    Due.is("hang", -1, x.hang(0, 0, 0));
    Due.no("store", x.store(0));
    Due.no("send", x.send(0));
    Due.is("on", -1, x.on(0));
    Due.is("places", -1, x.places(0));
    Due.is("of", -1, x.of(0, 0));
    Due.is("fades", -1, x.fades(0));
    Due.is("shown", -1, x.shown(0, 0, 0));
    Due.is("owed", 0, x.owed(0, 0));
    Due.thrown("best", () -> x.best(0, 1));
    Due.is("lay", -1, x.lay());
    Due.is("tale", -1, x.tale(0));
    Due.is("route", -1, x.route(0));
    Due.no("shut", x.shut(0, true));
    Due.is("way", -1, x.way(0, 0, 0));
    Due.is("bars", -1, x.bars(0, 0, 0));
    Due.is("move", -1, x.move(0, 0, 0));
    Due.is("done", 0, x.done());
    Due.is("stand", -1, x.stand(0));
    Due.no("sight", x.sight(0, 0));
    Due.row("no row told", x);
  }

  static void promise1_twoObjectsShareNothing() {
    GalleryWalls x = Twins.whole();
    GalleryWalls y = new GalleryWalls();
    for (int what = 0; what < 12; what++) Due.is("count " + what + " of the other", 0, y.count(what));
    Due.is("the liking of the other", 0, y.like(0, 1, 1));
    Due.is("this one's", 5, x.like(0, 1, 5));
  }

  // ---- promise 2: room

  static void promise2_roomsAreNumberedFrom0ToThe10th() {
    GalleryWalls x = new GalleryWalls();
    for (int i = 0; i < 10; i++) {
      Due.is("room", i, x.room());
      Due.is("rooms", i + 1, x.count(0));
    }
    Due.is("the last one is there", 0, x.wall(9, 50, 100, 1));
  }

  static void promise2_oneRoomMoreThan10IsRefused() { Twins.refused(() -> moreRooms(6), "room 11", -1, GalleryWalls::room); }

  private static GalleryWalls moreRooms(int n) {
    GalleryWalls x = Twins.whole();
    for (int i = 0; i < n; i++) x.room();
    return x;
  }

  // ---- promise 3: door

  static void promise3_leastAndGreatestWidthAndHeight() {
    GalleryWalls x = Due.rooms(2);
    Due.is("WIDTH 50, HEIGHT 100", 0, x.door(0, 1, 50, 100));
    Due.is("WIDTH 400, HEIGHT 600", 1, x.door(1, 0, 400, 600));
  }

  static void promise3_widthBeside50And400() {
    for (int width : new int[] {49, 401, 0, -50, LEAST, MOST}) Twins.refused("WIDTH " + width, -1, x -> x.door(0, 1, width, 200));
  }

  static void promise3_heightBeside100And600() {
    for (int height : new int[] {99, 601, 0, -100, LEAST, MOST}) Twins.refused("HEIGHT " + height, -1, x -> x.door(0, 1, 100, height));
  }

  static void promise3_ofTheFirstAndTheLastRoom() {
    GalleryWalls x = Due.rooms(3);
    Due.is("0 to 2", 0, x.door(0, 2, 100, 200));
    Due.is("2 to 0", 1, x.door(2, 0, 100, 200));
  }

  static void promise3_roomsThatAreNotThere() {
    for (int room : new int[] {-1, 4, 10, LEAST, MOST}) {
      Twins.refused("from " + room, -1, x -> x.door(room, 1, 100, 200));
      Twins.refused("to " + room, -1, x -> x.door(1, room, 100, 200));
    }
  }

  static void promise3_aRoomWithItself() {
    for (int room = 0; room < 4; room++) {
      int same = room;
      Twins.refused("from and to " + room, -1, x -> x.door(same, same, 100, 200));
    }
  }

  static void promise3_doorsAreNumberedFrom0ToThe20thAlsoOfTheSameRooms() {
    GalleryWalls x = Due.rooms(2);
    for (int i = 0; i < 20; i++) {
      Due.is("door", i, x.door(i % 2, 1 - i % 2, 100, 200));
      Due.is("doors", i + 1, x.count(1));
    }
  }

  static void promise3_oneDoorMoreThan20IsRefused() {
    Twins.refused(HouseEdgeTest::twentyDoors, "door 21", -1, x -> x.door(1, 2, 400, 600));
  }

  private static GalleryWalls twentyDoors() {
    GalleryWalls x = Twins.whole();
    for (int i = 3; i < 20; i++) x.door(2, 1, 50, 100);
    return x;
  }

  // ---- promise 4: wall

  static void promise4_leastAndGreatestNumbers() {
    GalleryWalls x = Due.rooms(1);
    Due.is("the least", 0, x.wall(0, 50, 100, 1));
    Due.is("the greatest", 1, x.wall(0, 3000, 900, 9999));
    Due.is("LENGTH of the least", 50, x.of(0, 3));
    Due.is("LENGTH of the greatest", 3000, x.of(1, 3));
  }

  static void promise4_lengthBeside50And3000() {
    for (int length : new int[] {49, 3001, 0, LEAST, MOST}) Twins.refused("LENGTH " + length, -1, x -> x.wall(0, length, 300, 50));
  }

  static void promise4_heightBeside100And900() {
    for (int height : new int[] {99, 901, 0, LEAST, MOST}) Twins.refused("HEIGHT " + height, -1, x -> x.wall(0, 300, height, 50));
  }

  static void promise4_bearsBeside1And9999() {
    for (int bears : new int[] {0, 10000, -1, LEAST, MOST}) Twins.refused("BEARS " + bears, -1, x -> x.wall(0, 300, 300, bears));
  }

  static void promise4_roomsThatAreNotThere() {
    for (int room : new int[] {-1, 4, 10, LEAST, MOST}) Twins.refused("in " + room, -1, x -> x.wall(room, 300, 300, 50));
  }

  static void promise4_inTheLastRoom() {
    GalleryWalls x = Due.rooms(3);
    Due.is("in room 2", 0, x.wall(2, 300, 300, 50));
    Due.pic(x, 20, 20, 5);
    x.hang(0, 0, 0);
    Due.is("its ROOM", 2, x.at(0, 6));
  }

  static void promise4_wallsAreNumberedFrom0ToThe16th() {
    GalleryWalls x = Due.rooms(1);
    for (int i = 0; i < 16; i++) {
      Due.is("wall", i, x.wall(0, 300 + i, 300, 50));
      Due.is("walls", i + 1, x.count(2));
    }
    for (int i = 0; i < 16; i++) Due.is("LENGTH of " + i, 300 + i, x.of(i, 3));
  }

  static void promise4_oneWallMoreThan16IsRefused() {
    Twins.refused(HouseEdgeTest::sixteenWalls, "wall 17", -1, x -> x.wall(0, 300, 300, 50));
  }

  private static GalleryWalls sixteenWalls() {
    GalleryWalls x = Twins.whole();
    for (int i = 3; i < 16; i++) x.wall(0, 50, 100, 1);
    return x;
  }

  static void promise4_lightIs0AtFirstAndBlindsAreNeverDown() {
    GalleryWalls x = wholeDay();
    Due.is("DAYLIGHT", 0, x.of(0, 0));
    Due.is("PEAK", 0, x.of(0, 1));
    Due.is("no BLINDS in any hour", 24, x.light(0, 2, 24, 1, 0));
  }

  // ---- promise 5: light

  private static GalleryWalls wholeDay() {
    GalleryWalls x = Due.rooms(1);
    x.wall(0, 300, 300, 50);
    x.set(2, 0);
    x.set(3, 23);
    return x;
  }

  private static void entry(int kind, int f, int want) {
    Due.is("kind " + kind + ", entry " + f, want, wholeDay().light(0, kind, 1, f, 1));
  }

  static void promise5_ofBytesTheLowestBitsWithTheirSign() {
    int[][] all = {{0, 0}, {1, 1}, {127, 127}, {128, 0}, {129, 0}, {255, 0}, {256, 0}, {257, 1}, {383, 127}, {384, 0},
      {-1, 0}, {-128, 0}, {-129, 127}, {-255, 1}, {-256, 0}, {LEAST, 0}, {LEAST + 5, 5}, {MOST, 0}, {MOST - 255, 0}, {MOST - 128, 127}};
    for (int[] a : all) entry(0, a[0], a[1]);
  }

  static void promise5_ofShortsTheLowestBitsWithTheirSign() {
    int[][] all = {{0, 0}, {1, 1}, {128, 128}, {32767, 9999}, {32768, 0}, {65535, 0}, {65536, 0}, {65537, 1}, {75535, 9999},
      {-1, 0}, {-32768, 0}, {-32769, 9999}, {-65535, 1}, {LEAST, 0}, {LEAST + 300, 300}, {MOST, 0}};
    for (int[] a : all) entry(1, a[0], a[1]);
  }

  static void promise5_intsAreWhole() {
    int[][] all = {{0, 0}, {1, 1}, {300, 300}, {65536, 9999}, {65537, 9999}, {MOST, 9999}, {LEAST, 0}, {LEAST + 5, 0}, {-65535, 0}};
    for (int[] a : all) entry(2, a[0], a[1]);
  }

  static void promise5_below0Is0() {
    for (int kind = 0; kind < 3; kind++) {
      entry(kind, -1, 0);
      entry(kind, 0, 0);
      entry(kind, 1, 1);
    }
  }

  static void promise5_above9999Is9999() {
    for (int kind = 1; kind < 3; kind++) {
      entry(kind, 9998, 9998);
      entry(kind, 9999, 9999);
      entry(kind, 10000, 9999);
    }
  }

  static void promise5_entriesGoOnByStepAndWrapAround() {
    Due.is("ints", 9999, wholeDay().light(0, 2, 2, MOST, 1));
    Due.is("ints, from the least", 7, wholeDay().light(0, 2, 3, LEAST + 7, LEAST));
    Due.is("ints, below 0 between", 5 + 0 + 7, wholeDay().light(0, 2, 3, 5, LEAST + 1));
    Due.is("bytes", 126 + 127, wholeDay().light(0, 0, 4, 126, 1));
    Due.is("bytes round about", 100 + 44, wholeDay().light(0, 0, 3, 100, 100));
    Due.is("shorts", 9999, wholeDay().light(0, 1, 2, 32767, 1));
    Due.is("shorts round about", 4464, wholeDay().light(0, 1, 2, 35000, 35000));
  }

  static void promise5_hoursBehindTheSheetHave0() {
    GalleryWalls x = wholeDay();
    x.light(0, 2, 24, 100, 0);
    Due.is("two hours", 14, x.light(0, 2, 2, 7, 0));
    x.set(3, 1);
    Due.is("hours 0 and 1", 14, x.of(0, 0));
    x.set(3, 0);
    Due.is("hour 0", 7, x.of(0, 0));
  }

  static void promise5_noEntryAtAll() {
    for (int kind = 0; kind < 3; kind++) {
      GalleryWalls x = wholeDay();
      x.light(0, 2, 24, 100, 0);
      Due.is("n 0 of kind " + kind, 0, x.light(0, kind, 0, 7, 1));
      Due.is("all hours have 0", 0, x.of(0, 1));
    }
  }

  static void promise5_asManyAs24Entries() {
    GalleryWalls x = wholeDay();
    Due.is("n 23", 23 * 5, x.light(0, 2, 23, 5, 0));
    Due.is("n 24", 24 * 5, x.light(0, 2, 24, 5, 0));
    x.set(2, 23);
    Due.is("the last hour", 5, x.of(0, 0));
  }

  static void promise5_nAbove24IsRefused() {
    for (int kind = 0; kind < 4; kind++)
      for (int n : new int[] {25, 26, MOST}) {
        int of = kind;
        Twins.refused("kind " + kind + ", n " + n, -1, x -> x.light(0, of, n, 5, 1));
      }
  }

  static void promise5_nBelow0ChangesNothing() {
    for (int kind = 0; kind < 3; kind++)
      for (int n : new int[] {-1, -24, LEAST}) {
        int of = kind;
        Twins.refused("kind " + kind + ", n " + n, -2, x -> x.light(0, of, n, 5, 1));
      }
  }

  static void promise5_aMissingSheetIsAll0() {
    for (int n : new int[] {-1, LEAST, 0, 1, 24}) {
      GalleryWalls x = wholeDay();
      x.light(0, 2, 24, 100, 0);
      Due.is("missing, n " + n, -3, x.light(0, 3, n, 5, 1));
      Due.is("DAYLIGHT", 0, x.of(0, 0));
      Due.is("PEAK", 0, x.of(0, 1));
    }
  }

  static void promise5_aMissingSheetIsOfOneWall() {
    GalleryWalls x = wholeDay();
    x.wall(0, 300, 300, 50);
    x.light(0, 2, 24, 1, 0);
    x.light(1, 2, 24, 2, 0);
    x.light(0, 3, 0, 0, 0);
    Due.is("the other wall", 48, x.of(1, 0));
  }

  static void promise5_noSuchWallOrKindIsAskedFirst() {
    for (int wall : new int[] {-1, 3, LEAST, MOST}) {
      Twins.refused("wall " + wall, -1, x -> x.light(wall, 2, 24, 5, 1));
      Twins.refused("wall " + wall + ", n below 0", -1, x -> x.light(wall, 2, -1, 5, 1));
      Twins.refused("wall " + wall + ", missing", -1, x -> x.light(wall, 3, 24, 5, 1));
    }
    for (int kind : new int[] {-1, 4, LEAST, MOST}) {
      Twins.refused("kind " + kind, -1, x -> x.light(0, kind, 24, 5, 1));
      Twins.refused("kind " + kind + ", n below 0", -1, x -> x.light(0, kind, -1, 5, 1));
    }
  }

  static void promise5_answersDaylightOfOpenHoursWithoutBlinds() {
    GalleryWalls x = wholeDay();
    x.set(2, 5);
    x.set(3, 9);
    x.blind(0, 8, 23);
    Due.is("hours 5, 6 and 7", 6 + 7 + 8, x.light(0, 2, 24, 1, 1));
    Due.is("the LAST hour is open", 5 + 6 + 7 + 8, lightOfOpen(x, 4, 7));
    Due.is("none of them", 0, lightOfOpen(x, 8, 23));
  }

  private static int lightOfOpen(GalleryWalls x, int first, int last) {
    x.set(2, 0);
    x.set(3, last);
    x.set(2, first);
    return x.light(0, 2, 24, 1, 1);
  }

  // ---- promise 6: blind

  private static GalleryWalls bright() {
    GalleryWalls x = wholeDay();
    x.light(0, 2, 24, 1, 1);
    return x;
  }

  private static void dark(int from, int to, int daylight, int peak) {
    GalleryWalls x = bright();
    Due.yes("blind " + from + " " + to, x.blind(0, from, to));
    Due.is("DAYLIGHT, blind " + from + " " + to, daylight, x.of(0, 0));
    Due.is("PEAK, blind " + from + " " + to, peak, x.of(0, 1));
  }

  static void promise6_fromAnHourToAnHourBothToo() {
    dark(22, 23, 300 - 23 - 24, 22);
    dark(0, 1, 300 - 1 - 2, 24);
    dark(3, 5, 300 - 4 - 5 - 6, 24);
  }

  static void promise6_oneHour() {
    dark(0, 0, 299, 24);
    dark(23, 23, 276, 23);
    dark(12, 12, 300 - 13, 24);
  }

  static void promise6_allHours() { dark(0, 23, 0, 0); }

  static void promise6_toBelowFromIsNever() {
    for (int[] a : new int[][] {{1, 0}, {23, 22}, {23, 0}, {12, 11}}) {
      GalleryWalls x = bright();
      x.blind(0, 0, 23);
      Due.yes("blind " + a[0] + " " + a[1], x.blind(0, a[0], a[1]));
      Due.is("all light", 300, x.of(0, 0));
    }
  }

  static void promise6_hoursBeside0And23AreRefused() {
    for (int hour : new int[] {-1, 24, LEAST, MOST}) {
      Twins.no("from " + hour, x -> x.blind(1, hour, 23));
      Twins.no("to " + hour, x -> x.blind(1, 0, hour));
      Twins.no("from and to " + hour, x -> x.blind(1, hour, hour));
    }
  }

  static void promise6_wallsThatAreNotThere() {
    for (int wall : new int[] {-1, 3, LEAST, MOST}) Twins.no("wall " + wall, x -> x.blind(wall, 0, 23));
  }

  static void promise6_ofOneWallOnly() {
    GalleryWalls x = bright();
    x.wall(0, 300, 300, 50);
    x.light(1, 2, 24, 1, 1);
    x.blind(1, 0, 23);
    Due.is("the other wall", 300, x.of(0, 0));
    Due.is("this one", 0, x.of(1, 0));
  }

  // ---- promise 7: set

  private static void becomes(int what, int... vs) {
    GalleryWalls x = new GalleryWalls();
    int was = new int[] {150, 20, 10, 17}[what];
    for (int v : vs) {
      Due.is("set " + what + " " + v, was, x.set(what, v));
      Due.is("it is", v, x.count(new int[] {14, 15, 12, 13}[what]));
      was = v;
    }
  }

  static void promise7_eyeFrom100To200() {
    becomes(0, 100, 200, 150);
    for (int v : new int[] {99, 201, -100, LEAST, MOST}) Twins.refused("EYE " + v, -1, x -> x.set(0, v));
  }

  static void promise7_gapFrom0To99() {
    becomes(1, 0, 99, 20);
    for (int v : new int[] {-1, 100, LEAST, MOST}) Twins.refused("GAP " + v, -1, x -> x.set(1, v));
  }

  static void promise7_firstFrom0ToLast() {
    becomes(2, 0, 17, 10);
    for (int v : new int[] {-1, 18, 23, 24, LEAST, MOST}) Twins.refused("FIRST " + v, -1, x -> x.set(2, v));
  }

  static void promise7_lastFromFirstTo23() {
    becomes(3, 10, 23, 17);
    for (int v : new int[] {9, 0, -1, 24, LEAST, MOST}) Twins.refused("LAST " + v, -1, x -> x.set(3, v));
  }

  static void promise7_firstAndLastAtBothEnds() {
    GalleryWalls x = new GalleryWalls();
    x.set(3, 23);
    Due.is("FIRST 23", 10, x.set(2, 23));
    Due.is("LAST below", -1, x.set(3, 22));
    Due.is("FIRST 0", 23, x.set(2, 0));
    Due.is("LAST 0", 23, x.set(3, 0));
    Due.is("FIRST above", -1, x.set(2, 1));
  }

  static void promise7_oneOpenHour() {
    GalleryWalls x = bright();
    x.set(2, 23);
    Due.is("hour 23", 24, x.of(0, 0));
    x.set(2, 0);
    x.set(3, 0);
    Due.is("hour 0", 1, x.of(0, 0));
    Due.is("PEAK of it", 1, x.of(0, 1));
  }

  static void promise7_otherNumbersAreRefused() {
    for (int what : new int[] {-1, 4, LEAST, MOST}) Twins.refused("what " + what, -1, x -> x.set(what, 15));
  }

  // ---- promise 8: picture

  private static final int[] SMALLEST = {10, 10, 1, 0, 0, 0, 0};
  private static final int[] LARGEST = {800, 800, 999, 7, 2999, 999, 7};
  private static final String[] NUMBERS = {"WIDTH", "HEIGHT", "WEIGHT", "SCHOOL", "YEAR", "VALUE", "GIVER"};

  private static int picture(GalleryWalls x, int[] a) { return x.picture(a[0], a[1], a[2], a[3], a[4], a[5], a[6]); }

  static void promise8_theLeastAndTheGreatestOfEachNumber() {
    for (int i = 0; i < 7; i++) {
      int[] least = LARGEST.clone();
      least[i] = SMALLEST[i];
      Due.is("least " + NUMBERS[i], 0, picture(new GalleryWalls(), least));
      int[] most = SMALLEST.clone();
      most[i] = LARGEST[i];
      Due.is("greatest " + NUMBERS[i], 0, picture(new GalleryWalls(), most));
    }
  }

  static void promise8_besideTheLeastAndTheGreatestOfEachNumber() {
    for (int i = 0; i < 7; i++) {
      for (int v : new int[] {SMALLEST[i] - 1, LARGEST[i] + 1, LEAST, MOST}) {
        int[] a = SMALLEST.clone();
        a[i] = v;
        Twins.refused(NUMBERS[i] + " " + v, -1, x -> picture(x, a));
      }
    }
  }

  static void promise8_picturesAreNumberedFrom0ToThe24th() {
    GalleryWalls x = new GalleryWalls();
    for (int i = 0; i < 24; i++) {
      Due.is("picture", i, picture(x, SMALLEST));
      Due.is("pictures", i + 1, x.count(3));
    }
    Due.is("the last one is there", 0, x.at(23, 0));
  }

  static void promise8_onePictureMoreThan24IsRefused() {
    Twins.refused(HouseEdgeTest::fullOfPictures, "picture 25", -1, x -> picture(x, SMALLEST));
  }

  private static GalleryWalls fullOfPictures() {
    GalleryWalls x = Twins.whole();
    for (int i = 7; i < 24; i++) picture(x, LARGEST);
    return x;
  }

  static void promise8_isInTheStoreWithoutAFellowOrAFoeAndHadNoLight() {
    GalleryWalls x = new GalleryWalls();
    picture(x, SMALLEST);
    int[] want = {0, -1, -1, 0, -1, -1, -1, -1};
    for (int what = 0; what < 8; what++) Due.is("at " + what, want[what], x.at(0, what));
    Due.is("no FOE", -1, x.tell(0, 1, -1));
  }

  static void promise8_limitAndTillAtFirst() {
    GalleryWalls x = new GalleryWalls();
    picture(x, SMALLEST);
    Due.is("LIMIT", 1000000, x.tell(0, 2, 5));
    Due.is("TILL", 400, x.tell(0, 3, 5));
  }

  // ---- promise 9: tell

  private static GalleryWalls four() {
    GalleryWalls x = new GalleryWalls();
    for (int i = 0; i < 4; i++) picture(x, SMALLEST);
    return x;
  }

  private static void fellows(String what, GalleryWalls x, int... want) {
    for (int i = 0; i < want.length; i++) Due.is(what + ": FELLOW of " + i, want[i], x.at(i, 7));
  }

  static void promise9_theFellowIsToldOfBoth() {
    GalleryWalls x = four();
    Due.is("it had none", -1, x.tell(0, 0, 3));
    fellows("0 with 3", x, 3, -1, -1, 0);
    Due.is("what the other was", 0, x.tell(3, 0, 0));
    fellows("told again", x, 3, -1, -1, 0);
  }

  static void promise9_theFellowThatThisOneHadHasNoneThen() {
    GalleryWalls x = four();
    x.tell(0, 0, 1);
    Due.is("0 with 2", 1, x.tell(0, 0, 2));
    fellows("0 with 2", x, 2, -1, 0, -1);
  }

  static void promise9_theFellowThatTheOtherHadHasNoneThen() {
    GalleryWalls x = four();
    x.tell(2, 0, 1);
    Due.is("0 with 2", -1, x.tell(0, 0, 2));
    fellows("0 with 2", x, 2, -1, 0, -1);
  }

  static void promise9_bothHadFellows() {
    GalleryWalls x = four();
    x.tell(0, 0, 1);
    x.tell(2, 0, 3);
    Due.is("1 with 2", 0, x.tell(1, 0, 2));
    fellows("1 with 2", x, -1, 2, 1, -1);
  }

  static void promise9_noFellowThen() {
    GalleryWalls x = four();
    Due.is("it has none", -1, x.tell(0, 0, -1));
    x.tell(0, 0, 1);
    Due.is("none", 0, x.tell(1, 0, -1));
    fellows("none", x, -1, -1, -1, -1);
  }

  static void promise9_theFoeIsToldOfThisOneAlone() {
    GalleryWalls x = four();
    Due.is("at first", -1, x.tell(0, 1, 3));
    Due.is("the other has none", -1, x.tell(3, 1, 1));
    Due.is("of this one", 3, x.tell(0, 1, -1));
    Due.is("none", -1, x.tell(0, 1, 1));
    Due.is("of the other still", 1, x.tell(3, 1, -1));
    fellows("a FOE is no FELLOW", x, -1, -1, -1, -1);
  }

  static void promise9_anotherPictureItself() {
    for (int what = 0; what < 2; what++)
      for (int p : new int[] {0, 2, 6}) {
        int of = what;
        Twins.refused("what " + what + " of " + p + " with itself", -2, x -> x.tell(p, of, p));
      }
  }

  static void promise9_anotherPictureThatIsNotThere() {
    for (int what = 0; what < 2; what++)
      for (int v : new int[] {7, 24, -2, LEAST, MOST}) {
        int of = what;
        Twins.refused("what " + what + " with " + v, -2, x -> x.tell(0, of, v));
      }
  }

  static void promise9_limitFrom0To1000000() {
    GalleryWalls x = four();
    Due.is("LIMIT 0", 1000000, x.tell(3, 2, 0));
    Due.is("LIMIT 1000000", 0, x.tell(3, 2, 1000000));
    Due.is("it was", 1000000, x.tell(3, 2, 1));
    for (int v : new int[] {-1, 1000001, LEAST, MOST}) Twins.refused("LIMIT " + v, -2, y -> y.tell(0, 2, v));
  }

  static void promise9_tillFrom0To400() {
    GalleryWalls x = four();
    Due.is("TILL 0", 400, x.tell(3, 3, 0));
    Due.is("TILL 400", 0, x.tell(3, 3, 400));
    Due.is("it was", 400, x.tell(3, 3, 1));
    for (int v : new int[] {-1, 401, LEAST, MOST}) Twins.refused("TILL " + v, -2, y -> y.tell(0, 3, v));
  }

  static void promise9_otherNumbersAreRefused() {
    for (int what : new int[] {-1, 4, LEAST, MOST}) Twins.refused("what " + what, -2, x -> x.tell(0, what, 1));
  }

  static void promise9_picturesThatAreNotThere() {
    for (int p : new int[] {-1, 7, 24, LEAST, MOST})
      for (int what = 0; what < 4; what++) {
        int of = what;
        Twins.refused("what " + what + " of " + p, -2, x -> x.tell(p, of, 1));
      }
  }
}
