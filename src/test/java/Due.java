import java.lang.reflect.InvocationTargetException;
import java.lang.reflect.Method;
import java.util.Arrays;
import java.util.Comparator;
import java.util.NoSuchElementException;

/** What tests share: answers that are due, counted when they are not given. */
final class Due {
  private static int wrong = 0;
  private static String where = "";

  interface Call { int answer(); }

  /** Runs each function of a class that bears the name of a promise; what fails is told with this name. */
  static void each(Class<?> tests) throws IllegalAccessException {
    Method[] all = tests.getDeclaredMethods();
    Arrays.sort(all, Comparator.comparing(Method::getName));
    for (Method m : all) {
      if (!m.getName().startsWith("promise")) continue;
      where = m.getName() + ": ";
      try {
        m.invoke(null);
      } catch (InvocationTargetException e) {
        fault("a call threw " + e.getCause());
      }
    }
    end();
  }

  static void fault(String what) {
    wrong++;
    System.out.println(where + what);
  }

  static void is(String what, long want, long got) {
    if (want != got) fault(what + " answered " + got + ", due is " + want);
  }

  static void yes(String what, boolean got) { is(what, 1, got ? 1 : 0); }

  static void no(String what, boolean got) { is(what, 0, got ? 1 : 0); }

  /** The ROW is this one, and nothing is behind it. */
  static void row(String what, GalleryWalls x, int... want) {
    int[] got = new int[x.count(10)];
    for (int i = 0; i < got.length; i++) got[i] = x.row(i);
    if (!Arrays.equals(want, got)) fault(what + ": the row is " + Arrays.toString(got) + ", due is " + Arrays.toString(want));
    thrown(what + ": row(-1)", () -> x.row(-1));
    thrown(what + ": row(" + want.length + ")", () -> x.row(want.length));
  }

  static void thrown(String what, Call call) {
    try {
      fault(what + " answered " + call.answer() + ", due is a NoSuchElementException");
    } catch (NoSuchElementException e) {
      if (e.getClass() != NoSuchElementException.class) fault(what + " threw " + e);
    }
  }

  /** A text comes on THE TAPE, which is empty before. */
  static void tape(GalleryWalls x, String text) {
    x.end(0);
    for (int i = 0; i < text.length(); i += 4) {
      int v = 0;
      for (int k = 0; k < 4; k++) v = v << 8 | (i + k < text.length() ? text.charAt(i + k) : 'q');
      x.sign(v);
    }
    x.end(text.length());
  }

  static int term(GalleryWalls x, String text, int picture, int night) {
    tape(x, text);
    return x.term(picture, night);
  }

  /** A house of so many rooms, none with a door. */
  static GalleryWalls rooms(int n) {
    GalleryWalls x = new GalleryWalls();
    for (int i = 0; i < n; i++) x.room();
    return x;
  }

  static int pic(GalleryWalls x, int width, int height, int weight) { return x.picture(width, height, weight, 0, 0, 0, 0); }

  static void end() {
    if (wrong != 0) System.exit(1);
  }
}
