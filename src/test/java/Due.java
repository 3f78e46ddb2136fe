import java.util.Arrays;
import java.util.NoSuchElementException;

/** What tests share: answers that are due, counted when they are not given. */
final class Due {
  private static int wrong = 0;

  interface Call { int answer(); }

  static void is(String what, long want, long got) {
    if (want == got) return;
    wrong++;
    System.out.println(what + " answered " + got + ", due is " + want);
  }

  static void yes(String what, boolean got) { is(what, 1, got ? 1 : 0); }

  static void no(String what, boolean got) { is(what, 0, got ? 1 : 0); }

  /** The ROW is this one, and nothing is behind it. */
  static void row(String what, GalleryWalls x, int... want) {
    int[] got = new int[x.count(10)];
    for (int i = 0; i < got.length; i++) got[i] = x.row(i);
    if (!Arrays.equals(want, got)) {
      wrong++;
      System.out.println(what + ": the row is " + Arrays.toString(got) + ", due is " + Arrays.toString(want));
    }
    thrown(what + ": row(-1)", () -> x.row(-1));
    thrown(what + ": row(" + want.length + ")", () -> x.row(want.length));
  }

  static void thrown(String what, Call call) {
    try {
      int got = call.answer();
      wrong++;
      System.out.println(what + " answered " + got + ", due is a NoSuchElementException");
    } catch (NoSuchElementException e) {
      if (e.getClass() != NoSuchElementException.class) {
        wrong++;
        System.out.println(what + " threw " + e);
      }
    }
  }

  /** A text comes on THE TAPE, which is empty before. */
  static void tape(GalleryWalls x, String text) {
    x.end(0);
    for (int i = 0; i < text.length(); i += 4) {
      int v = 0;
      for (int k = 0; k < 4; k++) v = v << 8 | (i + k < text.length() ? text.charAt(i + k) : 'q');
      x.sign(v);
    }
    x.end(text.length());
  }

  static int term(GalleryWalls x, String text, int picture, int night) {
    tape(x, text);
    return x.term(picture, night);
  }

  /** A house of so many rooms, none with a door. */
  static GalleryWalls rooms(int n) {
    GalleryWalls x = new GalleryWalls();
    for (int i = 0; i < n; i++) x.room();
    return x;
  }

  static int pic(GalleryWalls x, int width, int height, int weight) { return x.picture(width, height, weight, 0, 0, 0, 0); }

  static void end() {
    if (wrong != 0) System.exit(1);
  }
}
