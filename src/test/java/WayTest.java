/** Promises 33 to 35: ways. */
public final class WayTest {
  public static void main(String[] args) {
    passing();
    ways();
    shut();
    bars();
    Due.end();
  }

  private static void passing() {
    int[][] all = {{50, 100, 1}, {51, 100, 0}, {50, 101, 0}, {100, 50, 1}, {100, 51, 0}, {101, 50, 0}, {10, 10, 1}, {50, 50, 1}, {60, 60, 0}};
    for (int[] a : all) {
      GalleryWalls x = Due.rooms(2);
      x.door(0, 1, 50, 100);
      Due.pic(x, a[0], a[1], 1);
      Due.is("passes " + a[0] + " by " + a[1], a[2] == 1 ? 1 : -2, x.way(0, 0, 1));
      Due.is("back " + a[0] + " by " + a[1], a[2] == 1 ? 1 : -2, x.way(0, 1, 0));
      Due.is("bars " + a[0] + " by " + a[1], a[2] == 1 ? -2 : 0, x.bars(0, 0, 1));
    }
  }

  private static GalleryWalls house() {
    GalleryWalls x = Due.rooms(7);
    x.door(0, 3, 100, 200);
    x.door(0, 2, 100, 200);
    x.door(3, 5, 100, 200);
    x.door(2, 5, 100, 200);
    x.door(5, 1, 100, 200);
    x.door(0, 1, 50, 100);
    x.door(1, 4, 100, 200);
    Due.pic(x, 40, 40, 1);
    Due.pic(x, 150, 60, 1);
    Due.pic(x, 300, 300, 1);
    return x;
  }

  private static void ways() {
    GalleryWalls x = house();
    Due.is("a small one", 1, x.way(0, 0, 1));
    Due.row("a small one", x, 0, 1);
    Due.is("a great one", 3, x.way(1, 0, 1));
    Due.row("of as few the first", x, 0, 2, 5, 1);
    Due.is("back", 3, x.way(1, 1, 0));
    Due.row("back", x, 1, 5, 2, 0);
    Due.is("no way", -2, x.way(2, 0, 1));
    Due.row("the row stays", x, 1, 5, 2, 0);
    Due.is("to a ROOM without a DOOR", -2, x.way(0, 0, 6));
    Due.is("from and to the same", 0, x.way(2, 6, 6));
    Due.row("from and to the same", x, 6);
    int[][] bad = {{3, 0, 1}, {-1, 0, 1}, {0, -1, 1}, {0, 7, 1}, {0, 1, -1}, {0, 1, 7}};
    for (int[] b : bad) {
      Due.is("way: none such", -1, x.way(b[0], b[1], b[2]));
      Due.is("bars: none such", -1, x.bars(b[0], b[1], b[2]));
    }
    Due.row("the row stays", x, 6);
    x.send(0);
    Due.is("an AWAY one could be carried", 2, x.way(0, 0, 4));
    Due.row("an AWAY one could be carried", x, 0, 1, 4);
  }

  private static void shut() {
    GalleryWalls x = house();
    Due.no("shut none such", x.shut(7, true));
    Due.no("shut -1", x.shut(-1, true));
    Due.no("open none such", x.shut(7, false));
    Due.yes("shut 2", x.shut(2, true));
    Due.is("not through it", 3, x.way(1, 0, 1));
    Due.row("not through it", x, 0, 3, 5, 1);
    Due.is("not to it", -2, x.way(0, 0, 2));
    Due.is("not from it", -2, x.way(0, 2, 0));
    Due.is("not from it to it", -2, x.way(0, 2, 2));
    Due.yes("shut 3", x.shut(3, true));
    Due.is("no way", -2, x.way(1, 0, 1));
    Due.yes("shut 3 again", x.shut(3, true));
    Due.yes("open 2", x.shut(2, false));
    Due.is("through 2", 3, x.way(1, 0, 1));
    Due.row("through 2", x, 0, 2, 5, 1);
    Due.yes("open 3", x.shut(3, false));
    Due.yes("open 3 again", x.shut(3, false));
  }

  private static void bars() {
    GalleryWalls x = house();
    Due.is("there is a way", -2, x.bars(1, 0, 1));
    Due.is("the small DOOR", 5, x.bars(2, 0, 1));
    Due.is("two bar: none", -1, x.bars(2, 0, 4));
    Due.is("no DOOR at all", -1, x.bars(0, 0, 6));
    x.shut(5, true);
    Due.is("round about is shut", 5, x.bars(1, 0, 1));
    Due.is("the last part is open", 5, x.bars(1, 0, 4));
    x.shut(1, true);
    Due.is("to a SHUT ROOM", -1, x.bars(1, 0, 1));
    Due.is("from a SHUT ROOM", -1, x.bars(0, 1, 0));
    Due.is("through a SHUT ROOM", -1, x.bars(1, 0, 4));
    x.shut(1, false);
    x.shut(5, false);
    x.door(1, 0, 50, 100);
    x.shut(2, true);
    x.shut(3, true);
    Due.is("the first by number", 5, x.bars(1, 1, 0));
    Due.is("the same ROOM", -2, x.bars(2, 6, 6));
  }
}
