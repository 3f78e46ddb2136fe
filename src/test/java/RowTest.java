/** Promises 27 to 32: rows and the tale. */
public final class RowTest {
  public static void main(String[] args) {
    liking();
    best();
    cannotBe();
    lay();
    taleAndRoute();
    breaks();
    Due.end();
  }

  private static void liking() {
    GalleryWalls x = new GalleryWalls();
    Due.is("at first", 0, x.like(2, 5, 99));
    Due.is("either way", 99, x.like(5, 2, -99));
    Due.is("was", -99, x.like(2, 5, 1));
    Due.is("with itself", 0, x.like(7, 7, 3));
    Due.is("with itself, was", 3, x.like(7, 7, 0));
    Due.is("of others", 0, x.like(2, 4, 0));
    int[][] bad = {{-1, 0, 0}, {0, -1, 0}, {8, 0, 0}, {0, 8, 0}, {0, 0, 100}, {0, 0, -100}};
    for (int[] b : bad) Due.thrown("like", () -> x.like(b[0], b[1], b[2]));
    Due.is("nothing changed", 0, x.like(0, 0, 0));
  }

  private static GalleryWalls house(int pictures) {
    GalleryWalls x = Due.rooms(1);
    x.wall(0, 501, 300, 100);
    x.wall(0, 3000, 300, 9999);
    for (int i = 0; i < pictures; i++) x.picture(40 + i, 50, 10, i % 8, 0, 0, 0);
    return x;
  }

  private static void best() {
    GalleryWalls x = house(9);
    Due.is("all are alike", 0, x.best(0, 0b1011));
    Due.row("the first row", x, 0, 1, 3);
    x.like(0, 3, 9);
    Due.is("0 and 3", 9, x.best(0, 0b1011));
    Due.row("of equal ones the first", x, 0, 3, 1);
    x.like(0, 1, 9);
    Due.is("both sides", 18, x.best(0, 0b1011));
    Due.row("both sides", x, 1, 0, 3);
    for (int a = 0; a < 8; a++) for (int b = 0; b <= a; b++) x.like(a, b, -5);
    Due.is("below 0 with its ROW", -30, x.best(1, 0b1111111));
    Due.row("below 0 with its ROW", x, 0, 1, 2, 3, 4, 5, 6);
    Due.is("-5 of two", -5, x.best(1, 0b11));
    Due.row("-5 of two", x, 0, 1);
    x.like(0, 1, -1);
    Due.is("a worth of -1", -1, x.best(1, 0b11));
    Due.row("a worth of -1 with its ROW", x, 0, 1);
    x.like(0, 6, 7);
    x.like(6, 3, 7);
    x.like(3, 5, 7);
    Due.is("a chain", -1 + 7 + 7 + 7 - 5 - 5, x.best(1, 0b1111111));
    Due.row("a chain", x, 1, 0, 6, 3, 5, 2, 4);
    Due.is("the same school", -5, x.best(1, 0b100000001));
    x.like(0, 0, 4);
    Due.is("likes itself", 4, x.best(1, 0b100000001));
    Due.row("likes itself", x, 0, 8);
    Due.is("one alone", 0, x.best(0, 0b100));
    Due.row("one alone", x, 2);
    x.tell(0, 0, 5);
    x.tell(6, 0, 7);
    Due.is("FELLOWS beside each other", -1 - 5 + 7 + 7 - 5 - 5, x.best(1, 0b1111111));
    Due.row("FELLOWS beside each other", x, 1, 0, 5, 3, 6, 2, 4);
    Due.is("with the other FELLOW", -5 - 5, x.best(1, 0b11000100));
    Due.row("with the other FELLOW", x, 2, 6, 7);
  }

  private static void cannotBe() {
    GalleryWalls x = house(9);
    x.best(1, 0b11);
    Due.thrown("none", () -> x.best(1, 0));
    Due.thrown("eight", () -> x.best(1, 0b11111111));
    Due.is("seven", 0, x.best(1, 0b11111110));
    Due.row("seven", x, 1, 2, 3, 4, 5, 6, 7);
    Due.thrown("none such", () -> x.best(1, 1 << 9));
    Due.thrown("bit 24", () -> x.best(1, 1 | 1 << 24));
    Due.thrown("bit 31", () -> x.best(1, 1 | 1 << 31));
    Due.thrown("no wall", () -> x.best(2, 1));
    Due.thrown("wall -1", () -> x.best(-1, 1));
    Due.row("the row stays", x, 1, 2, 3, 4, 5, 6, 7);
    GalleryWalls y = Due.rooms(1);
    y.wall(0, 220, 200, 30);
    Due.pic(y, 100, 50, 15);
    Due.pic(y, 100, 100, 15);
    Due.pic(y, 101, 101, 1);
    Due.pic(y, 50, 50, 16);
    Due.is("just as long, high, heavy", 0, y.best(0, 0b11));
    Due.thrown("too long", () -> y.best(0, 0b101));
    Due.thrown("too high", () -> y.best(0, 0b100));
    Due.thrown("too heavy", () -> y.best(0, 0b1001));
    y.set(1, 21);
    Due.thrown("too wide gaps", () -> y.best(0, 0b11));
    y.set(1, 19);
    Due.is("again", 0, y.best(0, 0b11));
    y.tell(0, 1, 1);
    Due.thrown("FOES", () -> y.best(0, 0b11));
    Due.is("alone", 0, y.best(0, 0b1));
    y.tell(0, 1, -1);
    y.tell(1, 1, 0);
    Due.thrown("FOES the other way", () -> y.best(0, 0b11));
    y.tell(1, 1, 3);
    Due.is("a FOE not told", 0, y.best(0, 0b11));
    y.send(0);
    Due.thrown("AWAY", () -> y.best(0, 0b11));
    y.store(0);
    y.tell(0, 3, 0);
    y.step(1);
    Due.thrown("BACK", () -> y.best(0, 0b11));
    Due.is("the other", 0, y.best(0, 0b10));
  }

  private static void lay() {
    GalleryWalls x = house(4);
    x.hang(3, 0, 0);
    x.hang(1, 1, 0);
    x.hang(2, 1, 200);
    Due.is("found", 0, x.best(0, 0b011));
    x.set(1, 7);
    x.on(1);
    Due.is("laid", 2, x.lay());
    Due.row("lay tells no row", x, 1, 2);
    Due.is("in the midst", (501 - 101) / 2, x.at(0, 2));
    Due.is("GAP as it was", 200 + 40 + 20, x.at(1, 2));
    Due.is("on the wall", 0, x.at(1, 1));
    Due.is("the other to the STORE", 0, x.at(3, 0));
    Due.is("another wall stays", 1, x.at(2, 0));
    Due.is("done", -1, x.lay());
    Due.is("one alone, cut", 0, x.best(0, 0b100));
    Due.thrown("none is found", () -> x.best(0, 0));
    Due.is("the one found last", 1, x.lay());
    Due.is("(501 - 42) / 2", 229, x.at(2, 2));
    Due.is("others away", 1, x.on(0));
    x.best(0, 0b11);
    x.send(1);
    Due.is("AWAY", -1, x.lay());
    Due.is("nothing changed", 1, x.on(0));
    x.store(1);
    Due.is("there again", 2, x.lay());
    x.best(0, 0b11);
    x.tell(0, 3, 0);
    x.step(1);
    Due.is("BACK", -1, x.lay());
    Due.is("nothing changed", 1, x.on(0));
    Due.row("nothing changed", x, 1);
    Due.is("FITS is not asked", 0, Due.term(x, "0", 2, 0));
    x.best(0, 0b110);
    Due.is("laid against its term", 2, x.lay());
    Due.is("hangs", 1, x.at(2, 0));
  }

  private static void taleAndRoute() {
    GalleryWalls x = Due.rooms(10);
    for (int i = 0; i < 13; i++) Due.pic(x, 20, 20, 1);
    Due.is("tale none such", -1, x.tale(13));
    Due.is("tale -1", -1, x.tale(-1));
    for (int i = 0; i < 12; i++) {
      Due.is("tale " + i, i + 1, x.tale(11 - i));
      Due.is("tale again " + i, -1, x.tale(11 - i));
    }
    Due.is("tale 13", -1, x.tale(12));
    Due.is("tale's", 12, x.count(7));
    Due.is("route none such", -1, x.route(10));
    Due.is("route -1", -1, x.route(-1));
    for (int i = 0; i < 10; i++) {
      Due.is("route " + i, i + 1, x.route(9 - i));
      Due.is("route again " + i, -1, x.route(9 - i));
    }
    Due.is("route's", 10, x.count(8));
  }

  private static void breaks() {
    GalleryWalls x = Due.rooms(3);
    x.wall(1, 900, 300, 999);
    x.wall(0, 900, 300, 999);
    x.wall(1, 900, 300, 999);
    for (int i = 0; i < 6; i++) Due.pic(x, 20, 20, 1);
    int[] tale = {4, 2, 0, 5, 1, 3};
    for (int p : tale) x.tale(p);
    Due.is("none HUNG", 0, x.breaks());
    Due.row("none HUNG", x);
    x.hang(4, 0, 0);
    x.hang(2, 0, 100);
    x.hang(0, 2, 0);
    x.hang(5, 1, 0);
    Due.is("no route", 0, x.breaks());
    Due.row("no route", x);
    x.route(1);
    Due.is("room 1", 0, x.breaks());
    Due.row("room 1, by walls, then x", x, 4, 2, 0);
    x.route(0);
    Due.is("rooms 1 0", 0, x.breaks());
    Due.row("rooms 1 0", x, 4, 2, 0, 5);
    x.hang(4, 2, 500);
    Due.is("4 is behind 0", 1, x.breaks());
    Due.row("4 left out", x, 2, 0, 5);
    x.hang(2, 2, 400);
    Due.is("0 2 4 | 5", 2, x.breaks());
    Due.row("of as many the first in the tale", x, 4, 5);
    x.hang(1, 0, 0);
    Due.is("1 0 2 4 5", 3, x.breaks());
    Due.row("1 0 2 4 5", x, 4, 5);
    x.hang(3, 1, 300);
    Due.is("1 0 2 4 5 3", 3, x.breaks());
    Due.row("1 0 2 4 5 3", x, 4, 5, 3);
    x.send(4);
    Due.is("AWAY is not met", 2, x.breaks());
    Due.row("AWAY is not met", x, 2, 5, 3);
  }
}
