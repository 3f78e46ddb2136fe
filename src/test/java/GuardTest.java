/** Promises 39 to 43: gaps, guards, counts and the row. */
public final class GuardTest {
  public static void main(String[] args) {
    stand();
    standsNot();
    guards();
    counts();
    Due.end();
  }

  private static GalleryWalls house() {
    GalleryWalls x = Due.rooms(2);
    x.wall(0, 500, 300, 100);
    x.wall(1, 500, 300, 100);
    for (int i = 0; i < 8; i++) x.picture(50, 50, 10, i, 0, 0, 0);
    x.hang(0, 0, 0);
    x.hang(1, 0, 100);
    x.hang(2, 0, 200);
    return x;
  }

  private static void stand() {
    GalleryWalls x = house();
    Due.is("stand", 5, x.stand(1));
    Due.row("by number", x, 3, 4, 5, 6, 7);
    x.like(5, 0, 3);
    x.like(5, 2, 4);
    x.like(4, 2, 9);
    x.like(7, 1, 50);
    x.like(3, 0, -1);
    x.like(6, 0, 9);
    x.like(6, 2, -2);
    Due.is("stand by sums", 5, x.stand(1));
    Due.row("by sums", x, 4, 5, 6, 7, 3);
    Due.is("with one neighbour to the right", 5, x.stand(0));
    Due.row("with one neighbour to the right", x, 7, 3, 4, 5, 6);
    Due.is("with one neighbour to the left", 5, x.stand(2));
    Due.row("with one neighbour to the left", x, 7, 3, 4, 5, 6);
    Due.is("it is not HUNG", -1, x.stand(3));
    Due.is("none such", -1, x.stand(8));
    Due.is("none such -1", -1, x.stand(-1));
    Due.row("the row stays", x, 7, 3, 4, 5, 6);
    Due.is("it still hangs", 1, x.at(2, 0));
    Due.is("x", 200, x.at(2, 2));
  }

  private static void standsNot() {
    GalleryWalls x = house();
    x.picture(81, 50, 10, 0, 0, 0, 0);
    x.picture(80, 50, 10, 0, 0, 0, 0);
    x.picture(50, 50, 81, 0, 0, 0, 0);
    x.picture(50, 50, 80, 0, 0, 0, 0);
    x.send(3);
    x.hang(4, 1, 0);
    Due.term(x, "k=2", 5, 0);
    Due.term(x, "k=3", 6, 0);
    x.tell(7, 1, 2);
    Due.is("gap, weight, term, FOE", 3, x.stand(1));
    Due.row("gap, weight, term, FOE", x, 5, 9, 11);
    x.tell(7, 1, 1);
    Due.is("its FOE is gone then", 4, x.stand(1));
    Due.row("its FOE is gone then", x, 5, 7, 9, 11);
    Due.is("on the other wall", 5, x.stand(4));
    Due.row("no other hangs there", x, 7, 8, 9, 10, 11);
  }

  private static void guards() {
    GalleryWalls x = Due.rooms(4);
    for (int r = 0; r < 4; r++) {
      x.wall(r, 500, 300, 100);
      x.picture(50, 50, 10, 0, 0, 10 * r, 0);
    }
    Due.no("its own", x.sight(0, 0));
    Due.no("no room", x.sight(4, 0));
    Due.no("room -1", x.sight(-1, 0));
    Due.no("no wall", x.sight(0, 4));
    Due.no("wall -1", x.sight(0, -1));
    Due.is("none HUNG", 0, x.guard(0));
    Due.row("none HUNG", x, 0);
    for (int r = 0; r < 4; r++) x.hang(r, r, 0);
    Due.is("all", 4, x.guard(0));
    Due.row("all", x, 15);
    Due.is("10 or more", 3, x.guard(10));
    Due.row("10 or more", x, 14);
    Due.is("11 or more", 2, x.guard(11));
    Due.row("11 or more", x, 12);
    Due.is("31 or more", 0, x.guard(31));
    Due.row("31 or more", x, 0);
    Due.is("-1", -1, x.guard(-1));
    Due.is("1000", -1, x.guard(1000));
    Due.row("the row stays", x, 0);
    Due.is("999", 0, x.guard(999));
    Due.yes("1 from 3", x.sight(3, 1));
    Due.yes("1 from 3 again", x.sight(3, 1));
    Due.is("10 or more, seen from 3", 2, x.guard(10));
    Due.row("10 or more, seen from 3", x, 12);
    x.sight(0, 2);
    x.sight(0, 3);
    Due.is("0 and 1, or 0 and 3", 2, x.guard(0));
    Due.row("of as few the least", x, 3);
    Due.is("11 or more from 0", 1, x.guard(11));
    Due.row("11 or more from 0", x, 1);
    x.store(1);
    Due.is("only HUNG ones", 1, x.guard(0));
    Due.row("only HUNG ones", x, 1);
  }

  private static void counts() {
    GalleryWalls x = house();
    x.door(0, 1, 50, 100);
    x.sign(0);
    Due.term(x, "1", 0, 0);
    x.sign(0x31000000);
    x.step(3);
    x.tale(4);
    x.tale(5);
    x.route(1);
    x.move(7, 0, 0);
    x.set(0, 160);
    x.set(1, 5);
    x.set(2, 4);
    x.set(3, 20);
    x.on(0);
    int[] want = {2, 1, 2, 8, 1, 3, 3, 2, 1, 1, 3, 4, 4, 20, 160, 5};
    for (int what = 0; what < 16; what++) Due.is("count(" + what + ")", want[what], x.count(what));
    Due.is("count(16)", -1, x.count(16));
    Due.is("count(-1)", -1, x.count(-1));
    Due.is("row(2)", 2, x.row(2));
    Due.thrown("row(3)", () -> x.row(3));
    Due.thrown("row(-1)", () -> x.row(-1));
    Due.thrown("row(greatest)", () -> x.row(Integer.MAX_VALUE));
    Due.is("row(0)", 0, x.row(0));
  }
}
