/** Promises 23 to 26: light and nights. */
public final class NightTest {
  public static void main(String[] args) {
    steps();
    back();
    fades();
    shownAndOwed();
    Due.end();
  }

  private static GalleryWalls house() {
    GalleryWalls x = Due.rooms(1);
    x.wall(0, 500, 300, 300);
    x.wall(0, 500, 300, 300);
    x.light(0, 2, 24, 10, 0);
    return x;
  }

  private static void steps() {
    GalleryWalls x = house();
    Due.pic(x, 20, 20, 1);
    Due.pic(x, 20, 20, 1);
    Due.pic(x, 20, 20, 1);
    x.hang(0, 0, 0);
    x.hang(1, 1, 0);
    Due.is("-1 nights", -1, x.step(-1));
    Due.is("101 nights", -1, x.step(101));
    Due.is("no night", 0, x.step(0));
    Due.is("HAD", 0, x.at(0, 3));
    Due.is("a night", 1, x.step(1));
    Due.is("NOW", 1, x.count(5));
    int[] had = {80, 0, 0};
    for (int p = 0; p < 3; p++) Due.is("HAD of " + p, had[p], x.at(p, 3));
    x.set(2, 16);
    x.blind(0, 17, 20);
    x.step(2);
    Due.is("one open hour", 100, x.at(0, 3));
    x.store(0);
    x.step(1);
    Due.is("in the STORE", 100, x.at(0, 3));
    Due.is("100 nights", 104, x.step(100));
    x.step(100);
    x.step(100);
    Due.is("above 400", -1, x.step(97));
    Due.is("still", 304, x.count(5));
    Due.is("400", 400, x.step(96));
    Due.is("0 of 400", 400, x.step(0));
    Due.is("1 of 400", -1, x.step(1));
    Due.is("new ones can hang yet", 3, Due.pic(x, 20, 20, 1));
    Due.is("hang", 0, x.hang(3, 0, 0));
    Due.is("fades", -1, x.fades(3));
  }

  private static void back() {
    GalleryWalls x = house();
    for (int i = 0; i < 4; i++) Due.pic(x, 20, 20, 1);
    for (int i = 0; i < 3; i++) x.tell(i, 3, 2);
    x.hang(0, 0, 0);
    x.send(1);
    x.hang(3, 0, 100);
    x.step(1);
    Due.is("not yet", 1, x.at(0, 0));
    x.step(1);
    int[] want = {3, 3, 3, 1};
    for (int p = 0; p < 4; p++) Due.is("state of " + p, want[p], x.at(p, 0));
    Due.is("off its wall", 1, x.on(0));
    Due.row("off its wall", x, 3);
    Due.is("had of both nights", 160, x.at(0, 3));
    Due.is("shown in both", 2, x.shown(0, 0, 400));
    x.tell(3, 3, 1);
    Due.is("TILL has passed, with the next night", 1, x.at(3, 0));
    x.step(0);
    Due.is("not with none", 1, x.at(3, 0));
    x.step(5);
    Due.is("BACK", 3, x.at(3, 0));
    Due.is("one night more", 240, x.at(3, 3));
    Due.is("one night more shown", 3, x.shown(3, 0, 7));
    Due.is("TILL of 0: with the first night", 4, Due.pic(x, 20, 20, 1));
    x.tell(4, 3, 0);
    Due.is("hang", 0, x.hang(4, 0, 0));
    x.step(1);
    Due.is("BACK too", 3, x.at(4, 0));
  }

  private static void fades() {
    GalleryWalls x = house();
    Due.is("none such", -1, x.fades(0));
    Due.pic(x, 20, 20, 1);
    x.tell(0, 2, 0);
    Due.is("not HUNG", -1, x.fades(0));
    x.hang(0, 1, 0);
    Due.is("no light", -1, x.fades(0));
    x.hang(0, 0, 0);
    int[][] want = {{0, 0}, {79, 0}, {80, 1}, {159, 1}, {160, 2}, {80 * 399 - 1, 398}, {80 * 399, 399}, {80 * 400 - 1, 399}, {80 * 400, -1}};
    for (int[] w : want) {
      x.tell(0, 2, w[0]);
      Due.is("LIMIT " + w[0], w[1], x.fades(0));
    }
    x.step(3);
    int[][] later = {{239, 3}, {240, 3}, {319, 3}, {320, 4}, {0, 3}, {80 * 400 - 1, 399}, {80 * 400, -1}};
    for (int[] w : later) {
      x.tell(0, 2, w[0]);
      Due.is("LIMIT " + w[0] + " later", w[1], x.fades(0));
    }
    x.tell(0, 2, 239);
    x.hang(0, 1, 0);
    Due.is("it is so already, without light", 3, x.fades(0));
    x.tell(0, 2, 240);
    Due.is("never without light", -1, x.fades(0));
    x.tell(0, 3, 4);
    x.hang(0, 0, 0);
    x.tell(0, 2, 600);
    Due.is("if it stayed", 7, x.fades(0));
    x.send(0);
    Due.is("AWAY", -1, x.fades(0));
    Due.is("-1", -1, x.fades(-1));
  }

  private static void shownAndOwed() {
    GalleryWalls x = house();
    for (int i = 0; i < 3; i++) x.picture(20, 20, 1, 0, 0, 0, i == 2 ? 7 : 3);
    x.hang(0, 0, 0);
    x.step(2);
    x.hang(1, 0, 100);
    x.store(0);
    x.step(1);
    x.hang(0, 0, 0);
    x.step(1);
    int[][] want = {{0, 0, 4, 3}, {0, 0, 2, 2}, {0, 1, 3, 1}, {0, 2, 3, 0}, {0, 3, 4, 1}, {0, 4, 400, 0}, {0, 0, 400, 3}, {1, 0, 4, 2}, {2, 0, 4, 0}, {0, 2, 2, 0}, {0, 400, 400, 0}};
    for (int[] w : want) Due.is("shown " + w[0] + " " + w[1] + " " + w[2], w[3], x.shown(w[0], w[1], w[2]));
    int[][] bad = {{3, 0, 1}, {-1, 0, 1}, {0, -1, 1}, {0, 0, 401}, {0, 2, 1}, {0, 401, 401}, {0, -2, -1}};
    for (int[] w : bad) Due.is("shown " + w[0] + " " + w[1] + " " + w[2], -1, x.shown(w[0], w[1], w[2]));
    int[] owed = {0, 0, 1, 2, 3};
    for (int n = 0; n <= 4; n++) Due.is("owed 3 " + n, owed[n], x.owed(3, n));
    Due.is("owed 7", 4, x.owed(7, 4));
    Due.is("owed to who gave none", 0, x.owed(0, 4));
    Due.is("above NOW", -1, x.owed(3, 5));
    Due.is("-1 nights", -1, x.owed(3, -1));
    Due.is("giver 8", -1, x.owed(8, 0));
    Due.is("giver -1", -1, x.owed(-1, 0));
    x.tell(0, 3, 0);
    x.step(1);
    Due.is("shown with this one", 2, x.owed(3, 4));
    x.step(2);
    Due.is("BACK ones too", 2, x.owed(3, 2));
    Due.is("a new one was not shown", 3, x.picture(20, 20, 1, 0, 0, 0, 0));
    Due.is("on no night", 7, x.owed(0, 7));
  }
}
