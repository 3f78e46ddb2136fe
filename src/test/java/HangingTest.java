/** Promises 15 to 22: hanging. */
public final class HangingTest {
  public static void main(String[] args) {
    fitsInOrder();
    apart();
    foes();
    asIfNotHung();
    states();
    neighbours();
    places();
    numbersOfWalls();
    allOnOneWall();
    Due.end();
  }

  private static GalleryWalls house() {
    GalleryWalls x = Due.rooms(2);
    x.wall(0, 500, 300, 30);
    x.wall(0, 500, 300, 30);
    x.wall(1, 500, 300, 30);
    return x;
  }

  private static void fitsInOrder() {
    GalleryWalls x = house();
    Due.is("no picture", -1, x.fits(0, 0, 0));
    Due.pic(x, 100, 301, 31);
    Due.pic(x, 100, 300, 31);
    Due.pic(x, 100, 300, 30);
    Due.pic(x, 100, 300, 1);
    Due.is("no wall", -1, x.fits(0, 3, 0));
    Due.is("wall -1", -1, x.fits(0, -1, 0));
    Due.is("picture -1", -1, x.fits(-1, 0, 0));
    Due.is("hang: no wall", -1, x.hang(2, 3, 0));
    Due.is("hang: no picture", -1, x.hang(4, 0, 0));
    Due.is("1 ahead of all", 1, x.fits(0, 0, 401));
    Due.is("1 at -1", 1, x.fits(0, 0, -1));
    Due.is("1 at the least int", 1, x.fits(0, 0, Integer.MIN_VALUE));
    Due.is("1 at the greatest int", 1, x.fits(0, 0, Integer.MAX_VALUE));
    Due.is("2", 2, x.fits(0, 0, 400));
    Due.is("4", 4, x.fits(1, 0, 400));
    Due.is("0", 0, x.fits(2, 0, 400));
    Due.is("hang as fits", 2, x.hang(0, 0, 400));
    Due.is("nothing changed", 0, x.at(0, 0));
    Due.is("hang", 0, x.hang(2, 0, 400));
    Due.is("3 ahead of 4", 3, x.fits(3, 0, 390));
    Due.is("4 with the other", 4, x.fits(3, 0, 0));
    Due.is("0 on the other wall", 0, x.fits(3, 1, 0));
    x.tell(3, 1, 2);
    Due.is("4 ahead of 5", 4, x.fits(3, 0, 0));
    Due.term(x, "0", 3, 0);
    Due.is("5 ahead of 6", 5, x.fits(3, 1, 0));
    Due.is("6 in the other room", 6, x.fits(3, 2, 0));
    x.tell(3, 1, -1);
    Due.is("6", 6, x.fits(3, 1, 0));
    x.set(0, 149);
    Due.is("EYE 149: 300 is too high", 2, x.fits(2, 0, 400));
    x.set(0, 151);
    Due.is("EYE 151: 300 is above twice 149", 2, x.fits(2, 0, 400));
    Due.is("it stays HUNG", 1, x.at(2, 0));
    x.set(0, 200);
    x.wall(0, 500, 100, 30);
    Due.pic(x, 10, 10, 1);
    Due.is("a wall below EYE", 2, x.fits(4, 3, 0));
  }

  private static void apart() {
    GalleryWalls x = house();
    Due.pic(x, 100, 50, 1);
    Due.pic(x, 60, 50, 1);
    x.hang(0, 0, 200);
    int[] gaps = {0, 1, 20, 99};
    for (int gap : gaps) {
      x.set(1, gap);
      Due.is("left, near enough " + gap, 0, x.fits(1, 0, 140 - gap));
      Due.is("left, too near " + gap, 3, x.fits(1, 0, 141 - gap));
      Due.is("right, near enough " + gap, 0, x.fits(1, 0, 300 + gap));
      Due.is("right, too near " + gap, 3, x.fits(1, 0, 299 + gap));
      Due.is("on it " + gap, 3, x.fits(1, 0, 220));
      Due.is("at it " + gap, 3, x.fits(1, 0, 200));
    }
  }

  private static void foes() {
    GalleryWalls x = house();
    for (int i = 0; i < 3; i++) Due.pic(x, 50, 50, 1);
    x.tell(0, 1, 1);
    Due.is("FOE in the STORE", 0, x.hang(0, 0, 0));
    Due.is("one whose FOE it is, same wall", 5, x.fits(1, 0, 200));
    Due.is("other wall of the ROOM", 5, x.fits(1, 1, 200));
    Due.is("other ROOM", 0, x.fits(1, 2, 200));
    Due.is("hang", 5, x.hang(1, 1, 200));
    Due.is("not its FOE", 0, x.fits(2, 1, 200));
    x.hang(1, 2, 200);
    Due.is("its FOE in the other ROOM", 5, x.fits(0, 2, 0));
    Due.is("where it is", 0, x.fits(0, 0, 0));
    x.send(1);
    Due.is("its FOE AWAY", 0, x.fits(0, 2, 0));
  }

  private static void asIfNotHung() {
    GalleryWalls x = house();
    Due.pic(x, 100, 50, 30);
    x.hang(0, 0, 100);
    Due.is("over itself", 0, x.fits(0, 0, 150));
    Due.is("moved", 0, x.hang(0, 0, 150));
    Due.is("x", 150, x.at(0, 2));
    Due.is("to another wall", 0, x.hang(0, 1, 7));
    Due.is("wall", 1, x.at(0, 1));
    Due.is("HUNG", 1, x.count(6));
    Due.is("first wall is empty", 0, x.on(0));
  }

  private static void states() {
    GalleryWalls x = house();
    Due.pic(x, 100, 50, 30);
    Due.no("store none such", x.store(1));
    Due.no("store -1", x.store(-1));
    Due.no("send none such", x.send(1));
    Due.no("send -1", x.send(-1));
    Due.no("store, it is there", x.store(0));
    Due.thrown("at(1, 0)", () -> x.at(1, 0));
    Due.thrown("at(-1, 0)", () -> x.at(-1, 0));
    Due.thrown("at(0, -1)", () -> x.at(0, -1));
    Due.thrown("at(0, 8)", () -> x.at(0, 8));
    int[][] want = {{0, -1, -1, 0, -1, -1, -1, -1}, {1, 2, 40, 0, -1, -1, 1, -1}, {2, -1, -1, 0, -1, -1, -1, -1}};
    check(x, want[0]);
    x.hang(0, 2, 40);
    check(x, want[1]);
    Due.yes("send", x.send(0));
    check(x, want[2]);
    Due.no("send again", x.send(0));
    Due.is("fits AWAY", -1, x.fits(0, 2, 40));
    Due.is("hang AWAY", -1, x.hang(0, 2, 40));
    Due.is("places AWAY", -1, x.places(0));
    Due.is("why AWAY", -2, x.why(0, 2, 40));
    Due.yes("store from AWAY", x.store(0));
    check(x, want[0]);
    Due.yes("send from the STORE", x.send(0));
    Due.yes("store", x.store(0));
    x.hang(0, 2, 40);
    Due.yes("store from the wall", x.store(0));
    check(x, want[0]);
    x.tell(0, 3, 1);
    x.hang(0, 2, 40);
    x.step(1);
    Due.is("BACK", 3, x.at(0, 0));
    Due.no("store BACK", x.store(0));
    Due.no("send BACK", x.send(0));
    Due.is("fits BACK", -1, x.fits(0, 2, 40));
    Due.is("hang BACK", -1, x.hang(0, 2, 40));
    Due.is("places BACK", -1, x.places(0));
    x.tell(0, 3, 400);
    x.step(1);
    Due.is("BACK for ever", 3, x.at(0, 0));
  }

  private static void check(GalleryWalls x, int[] want) {
    for (int what = 0; what < 8; what++) Due.is("at(0, " + what + ")", want[what], x.at(0, what));
  }

  private static void neighbours() {
    GalleryWalls x = house();
    for (int i = 0; i < 4; i++) Due.pic(x, 30, 50, 1);
    x.hang(2, 0, 0);
    x.hang(0, 0, 400);
    x.hang(3, 0, 100);
    x.hang(1, 1, 50);
    Due.is("on", 3, x.on(0));
    Due.row("on", x, 2, 3, 0);
    int[][] want = {{3, -1}, {-1, -1}, {-1, 3}, {2, 0}};
    for (int p = 0; p < 4; p++) {
      Due.is("left of " + p, want[p][0], x.at(p, 4));
      Due.is("right of " + p, want[p][1], x.at(p, 5));
    }
    Due.is("on none", -1, x.on(3));
    Due.row("the row stays", x, 2, 3, 0);
    Due.is("on -1", -1, x.on(-1));
    Due.is("on an empty wall", 0, x.on(2));
    Due.row("empty", x);
    Due.is("numbers of the ROW", 0, x.count(10));
  }

  private static void places() {
    GalleryWalls x = house();
    Due.is("none such", -1, x.places(0));
    Due.pic(x, 100, 50, 1);
    Due.pic(x, 100, 50, 1);
    Due.pic(x, 100, 50, 1);
    Due.pic(x, 410, 50, 1);
    x.hang(0, 0, 119);
    x.hang(1, 1, 120);
    Due.is("places", 3, x.places(2));
    Due.row("places", x, 0, 239, 1, 0, 2, 0);
    Due.is("none such", -1, x.places(4));
    Due.row("the row stays", x, 0, 239, 1, 0, 2, 0);
    Due.is("a wide one", 1, x.places(3));
    Due.row("a wide one", x, 2, 0);
    Due.is("itself is not in its way", 3, x.places(0));
    Due.row("itself is not in its way", x, 0, 0, 1, 0, 2, 0);
    Due.term(x, "n=0", 2, 0);
    Due.is("by its term", 1, x.places(2));
    Due.row("by its term", x, 2, 0);
    x.hang(3, 2, 0);
    Due.is("nowhere", 0, x.places(2));
    Due.row("nowhere", x);
    Due.term(x, "n=1&w<2", 2, 0);
    Due.is("behind", 2, x.places(2));
    Due.row("behind", x, 0, 239, 1, 0);
    Due.pic(x, 50, 50, 1);
    x.hang(4, 0, 330);
    x.set(1, 0);
    x.tell(2, 0, 4);
    Due.term(x, "b", 2, 0);
    Due.is("beside its FELLOW, left of it", 1, x.places(2));
    Due.row("beside its FELLOW, left of it", x, 0, 219);
    x.hang(4, 0, 300);
    Due.is("beside its FELLOW, right of it", 1, x.places(2));
    Due.row("beside its FELLOW, right of it", x, 0, 350);
  }

  private static void numbersOfWalls() {
    GalleryWalls x = house();
    Due.pic(x, 100, 50, 7);
    Due.pic(x, 50, 50, 8);
    x.hang(0, 0, 0);
    x.hang(1, 0, 200);
    x.light(0, 2, 24, 5, 1);
    Due.is("DAYLIGHT", 15 + 16 + 17 + 18 + 19 + 20 + 21 + 22, x.of(0, 0));
    Due.is("PEAK", 22, x.of(0, 1));
    Due.is("WEIGHTS", 15, x.of(0, 2));
    Due.is("free", 350, x.of(0, 3));
    Due.is("what 4", -1, x.of(0, 4));
    Due.is("what -1", -1, x.of(0, -1));
    Due.is("no wall", -1, x.of(3, 0));
    Due.is("wall -1", -1, x.of(-1, 0));
    Due.is("another wall", 500, x.of(1, 3));
    Due.is("WEIGHTS of another wall", 0, x.of(1, 2));
  }

  private static void allOnOneWall() {
    GalleryWalls x = Due.rooms(1);
    x.wall(0, 3000, 900, 9999);
    int[] want = new int[24];
    for (int i = 0; i < 24; i++) {
      Due.pic(x, 10, 10, 1);
      Due.is("hang " + i, 0, x.hang(i, 0, 2990 - 30 * i));
      want[i] = 23 - i;
    }
    Due.is("on", 24, x.on(0));
    Due.row("on", x, want);
    Due.is("HUNG", 24, x.count(6));
    Due.is("just behind the others' last", 0, x.fits(0, 0, 2990));
    Due.is("the least place of the last", 1, x.places(0));
    Due.row("the least place of the last", x, 0, 0);
    x.hang(0, 0, 0);
    Due.is("the least place of 23", 1, x.places(23));
    Due.row("just behind 0", x, 0, 30);
  }
}
