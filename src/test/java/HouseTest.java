/** Promises 1 to 9, 42 and 43: the house. */
public final class HouseTest {
  public static void main(String[] args) {
    newObject();
    roomsAndDoors();
    walls();
    light();
    blinds();
    numbers();
    pictures();
    fellowsAndFoes();
    limits();
    Due.end();
  }

  private static void newObject() {
    GalleryWalls x = new GalleryWalls();
    for (int i = 0; i < 12; i++) Due.is("new: count " + i, 0, x.count(i));
    Due.is("new: FIRST", 10, x.count(12));
    Due.is("new: LAST", 17, x.count(13));
    Due.is("new: EYE", 150, x.count(14));
    Due.is("new: GAP", 20, x.count(15));
    Due.is("count(16)", -1, x.count(16));
    Due.is("count(-1)", -1, x.count(-1));
    Due.is("count(least)", -1, x.count(Integer.MIN_VALUE));
    Due.row("new", x);
    Due.is("new: on(0)", -1, x.on(0));
    Due.is("new: step(0)", 0, x.step(0));
    Due.is("new: lay()", -1, x.lay());
    Due.is("new: done()", 0, x.done());
    Due.is("new: guard(0)", 0, x.guard(0));
    Due.row("new: guard", x, 0);
    Due.is("new: nights(1, 1)", 0, x.nights(1, 1));
    Due.row("new: nights", x);
    Due.is("new: breaks", 0, x.breaks());
    Due.thrown("new: at", () -> x.at(0, 0));
    Due.thrown("new: best", () -> x.best(0, 1));
    Due.is("new: like", 0, x.like(3, 4, 0));
    GalleryWalls y = new GalleryWalls();
    x.room();
    Due.is("another object has none of it", 0, y.count(0));
  }

  private static void roomsAndDoors() {
    GalleryWalls x = new GalleryWalls();
    for (int i = 0; i < 10; i++) Due.is("room " + i, i, x.room());
    Due.is("room 11", -1, x.room());
    Due.is("rooms", 10, x.count(0));
    Due.is("door from itself", -1, x.door(4, 4, 100, 200));
    Due.is("door from -1", -1, x.door(-1, 4, 100, 200));
    Due.is("door from 10", -1, x.door(10, 4, 100, 200));
    Due.is("door to -1", -1, x.door(4, -1, 100, 200));
    Due.is("door to 10", -1, x.door(4, 10, 100, 200));
    Due.is("door too narrow", -1, x.door(0, 1, 49, 200));
    Due.is("door too wide", -1, x.door(0, 1, 401, 200));
    Due.is("door too low", -1, x.door(0, 1, 50, 99));
    Due.is("door too high", -1, x.door(0, 1, 50, 601));
    Due.is("doors", 0, x.count(1));
    Due.is("least door", 0, x.door(0, 1, 50, 100));
    Due.is("greatest door", 1, x.door(1, 0, 400, 600));
    for (int i = 2; i < 20; i++) Due.is("door " + i, i, x.door(8, 9, 100, 200));
    Due.is("door 21", -1, x.door(8, 9, 100, 200));
    Due.is("doors at last", 20, x.count(1));
  }

  private static void walls() {
    GalleryWalls x = Due.rooms(2);
    Due.is("wall in no room", -1, x.wall(2, 100, 100, 100));
    Due.is("wall in room -1", -1, x.wall(-1, 100, 100, 100));
    Due.is("wall too short", -1, x.wall(0, 49, 100, 100));
    Due.is("wall too long", -1, x.wall(0, 3001, 100, 100));
    Due.is("wall too low", -1, x.wall(0, 100, 99, 100));
    Due.is("wall too high", -1, x.wall(0, 100, 901, 100));
    Due.is("wall bears nothing", -1, x.wall(0, 100, 100, 0));
    Due.is("wall bears too much", -1, x.wall(0, 100, 100, 10000));
    Due.is("least wall", 0, x.wall(0, 50, 100, 1));
    Due.is("greatest wall", 1, x.wall(1, 3000, 900, 9999));
    for (int i = 2; i < 16; i++) Due.is("wall " + i, i, x.wall(0, 100, 100, 100));
    Due.is("wall 17", -1, x.wall(0, 100, 100, 100));
    Due.is("walls", 16, x.count(2));
    Due.is("free length", 3000, x.of(1, 3));
  }

  private static GalleryWalls wholeDay() {
    GalleryWalls x = Due.rooms(1);
    x.wall(0, 100, 100, 100);
    x.set(2, 0);
    x.set(3, 23);
    return x;
  }

  private static void light() {
    GalleryWalls x = wholeDay();
    Due.is("no such wall", -1, x.light(1, 0, 1, 1, 1));
    Due.is("wall -1, n below 0", -1, x.light(-1, 0, -1, 1, 1));
    Due.is("kind -1", -1, x.light(0, -1, -1, 1, 1));
    Due.is("kind 4", -1, x.light(0, 4, -1, 1, 1));
    Due.is("n 25", -1, x.light(0, 2, 25, 1, 1));
    Due.is("missing, n 25", -1, x.light(0, 3, 25, 1, 1));
    Due.is("1 + 2 + .. + 24", 300, x.light(0, 2, 24, 1, 1));
    Due.is("peak", 24, x.of(0, 1));
    Due.is("n -1 of bytes", -2, x.light(0, 0, -1, 1, 1));
    Due.is("n -1 of shorts", -2, x.light(0, 1, -1, 1, 1));
    Due.is("n least of ints", -2, x.light(0, 2, Integer.MIN_VALUE, 1, 1));
    Due.is("nothing changed", 300, x.of(0, 0));
    Due.is("n 25: nothing changed", 300, x.of(0, 0));
    Due.is("missing", -3, x.light(0, 3, -1, 1, 1));
    Due.is("all 0", 0, x.of(0, 0));
    Due.is("only two hours", 7, x.light(0, 2, 2, 3, 1));
    Due.is("none of a sheet", 0, x.light(0, 2, 0, 3, 1));
    Due.is("bytes: 127", 127, x.light(0, 0, 1, 127, 1));
    Due.is("bytes: 128 is below 0", 0, x.light(0, 0, 1, 128, 1));
    Due.is("bytes: 256 + 5", 5, x.light(0, 0, 1, 261, 1));
    Due.is("bytes: -250", 6, x.light(0, 0, 1, -250, 1));
    Due.is("bytes: 126, 127, 128", 253, x.light(0, 0, 3, 126, 1));
    Due.is("shorts: 9999", 9999, x.light(0, 1, 1, 9999, 1));
    Due.is("shorts: 10000", 9999, x.light(0, 1, 1, 10000, 1));
    Due.is("shorts: 32768 is below 0", 0, x.light(0, 1, 1, 32768, 1));
    Due.is("shorts: 65536 + 7", 7, x.light(0, 1, 1, 65543, 1));
    Due.is("ints: 65536 + 7", 9999, x.light(0, 2, 1, 65543, 1));
    Due.is("ints: -1", 0, x.light(0, 2, 1, -1, 1));
    Due.is("ints wrap", 9999, x.light(0, 2, 3, Integer.MAX_VALUE, 1));
    Due.is("ints wrap and wrap back", 9999 + 4 + 0 + 16, x.light(0, 2, 4, Integer.MAX_VALUE - 1, Integer.MIN_VALUE + 6));
    Due.is("going down", 9 + 5 + 1, x.light(0, 2, 5, 9, -4));
    Due.is("24 of the greatest", 24 * 9999, x.light(0, 2, 24, 9999, 0));
  }

  private static void blinds() {
    GalleryWalls x = wholeDay();
    x.wall(0, 100, 100, 100);
    x.light(0, 2, 24, 1, 1);
    x.light(1, 2, 24, 1, 1);
    Due.no("blind of no wall", x.blind(2, 1, 2));
    Due.no("blind from -1", x.blind(0, -1, 2));
    Due.no("blind from 24", x.blind(0, 24, 2));
    Due.no("blind to -1", x.blind(0, 3, -1));
    Due.no("blind to 24", x.blind(0, 3, 24));
    Due.is("no blinds", 300, x.of(0, 0));
    Due.yes("blind 22 23", x.blind(0, 22, 23));
    Due.is("without two", 300 - 47, x.of(0, 0));
    Due.is("peak without two", 22, x.of(0, 1));
    Due.is("the other wall", 300, x.of(1, 0));
    Due.yes("blind 0 0", x.blind(0, 0, 0));
    Due.is("without one", 299, x.of(0, 0));
    Due.is("light() too", 299, x.light(0, 2, 24, 1, 1));
    Due.yes("never", x.blind(0, 1, 0));
    Due.is("with all", 300, x.of(0, 0));
    x.set(2, 5);
    x.set(3, 7);
    Due.is("open hours", 6 + 7 + 8, x.of(0, 0));
    Due.is("peak of these", 8, x.of(0, 1));
    x.blind(0, 7, 20);
    Due.is("peak of these but one", 7, x.of(0, 1));
    x.blind(0, 23, 22);
    Due.is("never again", 21, x.of(0, 0));
  }

  private static void numbers() {
    GalleryWalls x = new GalleryWalls();
    Due.is("EYE 99", -1, x.set(0, 99));
    Due.is("EYE 201", -1, x.set(0, 201));
    Due.is("EYE 200", 150, x.set(0, 200));
    Due.is("EYE 100", 200, x.set(0, 100));
    Due.is("GAP -1", -1, x.set(1, -1));
    Due.is("GAP 100", -1, x.set(1, 100));
    Due.is("GAP 99", 20, x.set(1, 99));
    Due.is("GAP 0", 99, x.set(1, 0));
    Due.is("FIRST 18", -1, x.set(2, 18));
    Due.is("FIRST 17", 10, x.set(2, 17));
    Due.is("LAST 16", -1, x.set(3, 16));
    Due.is("LAST 24", -1, x.set(3, 24));
    Due.is("LAST 23", 17, x.set(3, 23));
    Due.is("FIRST -1", -1, x.set(2, -1));
    Due.is("FIRST 0", 17, x.set(2, 0));
    Due.is("LAST 0", 23, x.set(3, 0));
    Due.is("LAST -1", -1, x.set(3, -1));
    Due.is("what 4", -1, x.set(4, 150));
    Due.is("what -1", -1, x.set(-1, 150));
    Due.is("EYE", 100, x.count(14));
    Due.is("GAP", 0, x.count(15));
  }

  private static void pictures() {
    int[] least = {10, 10, 1, 0, 0, 0, 0};
    int[] most = {800, 800, 999, 7, 2999, 999, 7};
    GalleryWalls x = new GalleryWalls();
    for (int i = 0; i < 7; i++) {
      int[] a = least.clone();
      a[i]--;
      Due.is("too small a number " + i, -1, x.picture(a[0], a[1], a[2], a[3], a[4], a[5], a[6]));
      int[] b = most.clone();
      b[i]++;
      Due.is("too great a number " + i, -1, x.picture(b[0], b[1], b[2], b[3], b[4], b[5], b[6]));
    }
    Due.is("pictures", 0, x.count(3));
    Due.is("the least", 0, x.picture(10, 10, 1, 0, 0, 0, 0));
    Due.is("the greatest", 1, x.picture(800, 800, 999, 7, 2999, 999, 7));
    for (int i = 2; i < 24; i++) Due.is("picture " + i, i, x.picture(10, 10, 1, 0, 0, 0, 0));
    Due.is("picture 25", -1, x.picture(10, 10, 1, 0, 0, 0, 0));
    Due.is("pictures at last", 24, x.count(3));
    Due.is("in the STORE", 0, x.at(23, 0));
    Due.is("HAD", 0, x.at(23, 3));
    Due.is("no FELLOW", -1, x.at(23, 7));
  }

  private static void fellowsAndFoes() {
    GalleryWalls x = new GalleryWalls();
    for (int i = 0; i < 5; i++) Due.pic(x, 20, 20, 5);
    Due.is("of none such", -2, x.tell(5, 0, 0));
    Due.is("of -1", -2, x.tell(-1, 0, 0));
    Due.is("FELLOW itself", -2, x.tell(2, 0, 2));
    Due.is("FELLOW none such", -2, x.tell(2, 0, 5));
    Due.is("FELLOW -2", -2, x.tell(2, 0, -2));
    Due.is("FOE itself", -2, x.tell(2, 1, 2));
    Due.is("FOE none such", -2, x.tell(2, 1, 5));
    Due.is("FOE -2", -2, x.tell(2, 1, -2));
    Due.is("what 4", -2, x.tell(2, 4, 1));
    Due.is("what -1", -2, x.tell(2, -1, 1));
    Due.is("0 with 1", -1, x.tell(0, 0, 1));
    Due.is("2 with 3", -1, x.tell(2, 0, 3));
    Due.is("1 with 2", 0, x.tell(1, 0, 2));
    int[] want = {-1, 2, 1, -1};
    for (int i = 0; i < 4; i++) Due.is("FELLOW of " + i, want[i], x.at(i, 7));
    Due.is("1 with 2 again", 2, x.tell(1, 0, 2));
    Due.is("still", 1, x.at(2, 7));
    Due.is("2 with 1", 1, x.tell(2, 0, 1));
    Due.is("still too", 2, x.at(1, 7));
    Due.is("2 with none", 1, x.tell(2, 0, -1));
    Due.is("1 has none", -1, x.at(1, 7));
    Due.is("2 has none", -1, x.at(2, 7));
    Due.is("FOE of 0", -1, x.tell(0, 1, 1));
    Due.is("FOE of 1 is its own", -1, x.tell(1, 1, 2));
    Due.is("FOE of 0 was", 1, x.tell(0, 1, -1));
    Due.is("FOE of 0 is none", -1, x.tell(0, 1, 3));
    Due.is("FOE is no FELLOW", -1, x.at(0, 7));
  }

  private static void limits() {
    GalleryWalls x = new GalleryWalls();
    Due.pic(x, 20, 20, 5);
    Due.is("LIMIT -1", -2, x.tell(0, 2, -1));
    Due.is("LIMIT 1000001", -2, x.tell(0, 2, 1000001));
    Due.is("LIMIT 0", 1000000, x.tell(0, 2, 0));
    Due.is("LIMIT 1000000", 0, x.tell(0, 2, 1000000));
    Due.is("LIMIT was", 1000000, x.tell(0, 2, 7));
    Due.is("TILL -1", -2, x.tell(0, 3, -1));
    Due.is("TILL 401", -2, x.tell(0, 3, 401));
    Due.is("TILL 0", 400, x.tell(0, 3, 0));
    Due.is("TILL 400", 0, x.tell(0, 3, 400));
    Due.is("TILL was", 400, x.tell(0, 3, 7));
  }
}
