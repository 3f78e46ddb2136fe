/** Promises 36 to 38: moves. */
public final class MoveTest {
  public static void main(String[] args) {
    refused();
    waiting();
    nights();
    done();
    Due.end();
  }

  private static GalleryWalls house() {
    GalleryWalls x = Due.rooms(3);
    x.wall(0, 100, 300, 20);
    x.wall(1, 100, 300, 20);
    x.wall(2, 100, 300, 20);
    x.wall(0, 500, 300, 100);
    for (int i = 0; i < 10; i++) Due.pic(x, 60, 50, 10);
    return x;
  }

  private static void refused() {
    GalleryWalls x = house();
    int[][] bad = {{10, 0, 0}, {-1, 0, 0}, {0, 4, 0}, {0, -1, 0}, {0, 0, -1001}, {0, 0, 4001}};
    for (int[] b : bad) Due.is("move", -1, x.move(b[0], b[1], b[2]));
    x.send(9);
    Due.is("AWAY", -1, x.move(9, 0, 0));
    x.store(9);
    x.tell(9, 3, 0);
    x.step(1);
    Due.is("BACK", -1, x.move(9, 0, 0));
    Due.is("first", 0, x.move(0, 0, -1000));
    Due.is("it has one", -1, x.move(0, 1, 0));
    Due.is("second", 1, x.move(1, 0, 4000));
    for (int i = 2; i < 8; i++) Due.is("move " + i, i, x.move(i, 0, 0));
    Due.is("move 9", -1, x.move(8, 0, 0));
    Due.is("moves", 8, x.count(9));
    int[][] others = {{0, 1}, {9, 1}, {1, 0}, {1, 9}, {-1, 3}, {3, -1}};
    for (int[] o : others) Due.is("nights(" + o[0] + ", " + o[1] + ")", -1, x.nights(o[0], o[1]));
    Due.is("they can't be", -2, x.nights(8, 8));
    Due.is("nor all at once", -2, x.done());
    Due.is("moves stay", 8, x.count(9));
    Due.is("none HUNG", 0, x.count(6));
  }

  /** 0 goes where 1 hangs, 1 where 2 hangs, 2 to a free wall. */
  private static GalleryWalls chain() {
    GalleryWalls x = house();
    x.hang(0, 0, 0);
    x.hang(1, 1, 0);
    x.hang(2, 2, 0);
    x.move(0, 1, 10);
    x.move(1, 2, 10);
    x.move(2, 3, 10);
    return x;
  }

  private static void waiting() {
    GalleryWalls x = chain();
    Due.is("all in one night", 1, x.nights(3, 3));
    Due.row("all in one night", x, 7);
    Due.is("two in a night", 2, x.nights(2, 3));
    Due.row("the last one alone is least", x, 4, 3);
    Due.is("one by one", 3, x.nights(1, 2));
    Due.row("one by one", x, 4, 2, 1);
    Due.is("two rooms a night", 3, x.nights(8, 2));
    Due.row("two rooms a night", x, 4, 2, 1);
    Due.is("one room a night", -2, x.nights(8, 1));
    Due.row("the row stays", x, 4, 2, 1);
    Due.is("nothing moved", 0, x.at(0, 1));
    x.hang(5, 3, 0);
    Due.is("the free place is taken", -2, x.nights(8, 8));
    Due.is("done: taken", -2, x.done());
    x.store(5);
    x.send(1);
    Due.is("AWAY", -2, x.nights(8, 8));
    Due.is("done: AWAY", -2, x.done());
    x.store(1);
    Due.is("from the STORE", 2, x.nights(2, 2));
    Due.row("from the STORE", x, 1, 6);
    GalleryWalls y = house();
    y.hang(0, 0, 0);
    y.hang(1, 1, 0);
    y.move(0, 1, 0);
    y.move(1, 0, 0);
    Due.is("in a ring", -2, y.nights(8, 8));
    Due.is("all at once they can", 2, y.done());
    Due.is("0", 1, y.at(0, 1));
    Due.is("1", 0, y.at(1, 1));
  }

  private static void nights() {
    GalleryWalls x = house();
    Due.is("no moves", 0, x.nights(1, 1));
    Due.row("no moves", x);
    x.move(4, 3, 0);
    x.move(5, 1, 0);
    x.move(6, 3, 100);
    x.move(7, 2, 0);
    Due.is("one room a night", 3, x.nights(8, 1));
    Due.row("one room a night", x, 2, 5, 8);
    Due.is("two rooms a night", 2, x.nights(8, 2));
    Due.row("two rooms a night", x, 2, 13);
    Due.is("two moves a night", 2, x.nights(2, 8));
    Due.row("two moves a night", x, 3, 12);
    Due.is("three moves a night", 2, x.nights(3, 3));
    Due.row("three moves a night", x, 1, 14);
    Due.term(x, "0", 4, 0);
    x.tell(4, 1, 6);
    Due.is("5 and 6 of FITS are not asked", 1, x.nights(4, 3));
    Due.row("5 and 6 of FITS are not asked", x, 15);
    GalleryWalls y = house();
    y.hang(0, 0, 0);
    y.move(0, 0, 20);
    Due.is("over itself", 1, y.nights(1, 1));
    y.move(1, 0, 0);
    Due.is("no place for two", -2, y.nights(8, 8));
    GalleryWalls z = house();
    z.hang(0, 3, 0);
    z.hang(1, 3, 80);
    z.move(0, 3, 80);
    z.move(1, 3, 160);
    Due.is("one behind the other in a night", 1, z.nights(2, 1));
    Due.row("one behind the other in a night", z, 3);
    Due.is("one a night", 2, z.nights(1, 1));
    Due.row("one a night", z, 2, 1);
    GalleryWalls w = house();
    w.wall(0, 500, 300, 20);
    w.hang(0, 4, 0);
    w.hang(1, 4, 100);
    w.move(2, 4, 200);
    Due.is("too heavy", -2, w.nights(8, 8));
    w.move(0, 3, 0);
    Due.is("light enough then", 2, w.nights(1, 8));
    Due.row("light enough then", w, 2, 1);
  }

  private static void done() {
    GalleryWalls x = chain();
    x.on(0);
    Due.is("done", 3, x.done());
    Due.row("done tells no row", x, 0);
    int[][] want = {{1, 10}, {2, 10}, {3, 10}};
    for (int p = 0; p < 3; p++) {
      Due.is("wall of " + p, want[p][0], x.at(p, 1));
      Due.is("x of " + p, want[p][1], x.at(p, 2));
    }
    Due.is("none then", 0, x.count(9));
    Due.is("done again", 0, x.done());
    Due.is("a move anew", 0, x.move(0, 0, 30));
    Due.is("done anew", 1, x.done());
    Due.is("there", 30, x.at(0, 2));
    x.move(0, 0, 41);
    Due.is("beyond the wall", -2, x.done());
    Due.is("nothing is done", 30, x.at(0, 2));
    Due.is("it stays", 1, x.count(9));
    GalleryWalls y = house();
    y.move(0, 0, 0);
    y.move(1, 0, 40);
    Due.is("over each other", -2, y.done());
    Due.is("in the STORE", 0, y.at(0, 0));
    GalleryWalls z = house();
    z.move(0, 0, 0);
    z.move(1, 1, 0);
    z.tell(1, 3, 0);
    z.step(1);
    Due.is("BACK", -2, z.done());
    Due.is("BACK: nights", -2, z.nights(8, 8));
    Due.is("the other is not HUNG", 0, z.at(0, 0));
  }
}
