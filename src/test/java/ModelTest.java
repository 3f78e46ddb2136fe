import java.lang.reflect.InvocationTargetException;
import java.lang.reflect.Method;
import java.util.ArrayList;
import java.util.Arrays;
import java.util.List;
import java.util.Map;
import java.util.NoSuchElementException;
import java.util.Random;

/** Long runs of calls, told by a fixed seed, on the program and on the slow Model: each answer and each state has to agree. */
public final class ModelTest {
  private static final int THROWN = Integer.MIN_VALUE + 77;
  private static final String[] NAMES = {"room", "door", "wall", "light", "blind", "set", "picture", "tell", "sign", "end",
    "term", "force", "why", "fits", "hang", "store", "send", "at", "on", "places", "of", "step", "fades", "shown", "owed",
    "like", "best", "lay", "tale", "route", "breaks", "shut", "way", "bars", "move", "nights", "done", "stand", "sight",
    "guard", "count", "row"};
  private static final int[] WEIGHTS = {3, 8, 8, 10, 5, 5, 14, 14, 8, 2,
    2, 6, 12, 14, 60, 6, 4, 6, 6, 6, 5, 6, 8, 5, 5,
    12, 12, 7, 10, 7, 10, 5, 10, 8, 25, 10, 3, 8, 8, 8, 3, 3};
  private static final Map<Class<?>, Method[]> CALLS =
    Map.of(GalleryWalls.class, callsOf(GalleryWalls.class), Model.class, callsOf(Model.class));
  private static int wrong = 0;
  private static int[] good = new int[NAMES.length];

  public static void main(String[] args) {
    for (int seed = 1; seed <= 400 && wrong < 10; seed++) run(seed);
    for (int seed = 1; seed <= 4000 && wrong < 10; seed++) runMoves(seed);
    for (int seed = 1; seed <= 300 && wrong < 10; seed++) runRows(seed);
    for (int seed = 1; seed <= 600 && wrong < 10; seed++) runTerms(seed);
    for (int i = 0; i < NAMES.length; i++)
      if (good[i] < 50) { wrong++; System.out.println("too few good answers of " + NAMES[i] + ": " + good[i]); }
    if (wrong != 0) System.exit(1);
  }

  private static int b(boolean is) { return is ? 1 : 0; }

  private static void run(int seed) {
    Random r = new Random(seed);
    GalleryWalls x = new GalleryWalls();
    Model m = new Model();
    int calls = 0;
    int sum = 0;
    for (int w : WEIGHTS) sum += w;
    StringBuilder said = new StringBuilder();
    boolean busy = r.nextBoolean();
    while (calls < 512 && wrong < 10) {
      int which;
      if (calls < 60 && busy) {
        which = new int[] {0, 1, 2, 6, 6, 3, 25, 7}[r.nextInt(8)];
      } else {
        int pick = r.nextInt(sum);
        which = 0;
        while (pick >= WEIGHTS[which]) { pick -= WEIGHTS[which]; which++; }
      }
      if (which == 8 && r.nextInt(8) != 0) {
        calls += tellTerm(r, x, m, said);
        continue;
      }
      int[] a = new int[7];
      for (int i = 0; i < 7; i++) a[i] = argument(which, i, r, m, a);
      if (which == 14 && r.nextInt(2) == 0) {
        int n = x.places(a[0]);
        calls++;
        check(seed, said, "places " + a[0], n, m.places(a[0]));
        if (n > 0) {
          int k = r.nextInt(n);
          a[1] = m.row.get(2 * k);
          a[2] = m.row.get(2 * k + 1) + r.nextInt(2) * r.nextInt(60);
        }
      }
      compare(seed, said, x, m, which, a);
      calls++;
      if (calls % 16 == 0) compareStates(seed, said, x, m);
    }
  }

  /** One call on both: the answers and the rows have to agree. */
  private static int compare(int seed, StringBuilder said, GalleryWalls x, Model m, int which, int... told) {
    int[] a = Arrays.copyOf(told, 7);
    String call = NAMES[which] + Arrays.toString(a);
    int want = answer(m, which, a);
    int got = answer(x, which, a);
    said.append(call).append(" -> ").append(got).append('\n');
    if (got >= 0) good[which]++;
    check(seed, said, call, got, want);
    List<Integer> row = rowOf(x);
    if (!row.equals(m.row)) {
      wrong++;
      System.out.println("seed " + seed + ": row behind " + call + " is " + row + ", due is " + m.row);
    }
    return got;
  }

  /** Few small walls, full of pictures that are to change places: moves that wait for one another. */
  private static void runMoves(int seed) {
    Random r = new Random(seed);
    GalleryWalls x = new GalleryWalls();
    Model m = new Model();
    StringBuilder said = new StringBuilder();
    int rooms = 1 + r.nextInt(4), walls = 1 + r.nextInt(4), pictures = 1 + r.nextInt(9);
    for (int i = 0; i < rooms; i++) compare(seed, said, x, m, 0);
    for (int i = 0; i < walls; i++) compare(seed, said, x, m, 2, r.nextInt(rooms), 50 + r.nextInt(250), 300, 10 + r.nextInt(30));
    for (int i = 0; i < pictures; i++) compare(seed, said, x, m, 6, 10 + r.nextInt(60), 50, 1 + r.nextInt(9), r.nextInt(4), 0, 0, 0);
    compare(seed, said, x, m, 5, 1, r.nextInt(12));
    for (int i = 0; i < pictures; i++) {
      if (r.nextInt(6) == 0 || compare(seed, said, x, m, 19, i) <= 0) continue;
      int k = r.nextInt(m.row.size() / 2);
      compare(seed, said, x, m, 14, i, m.row.get(2 * k), m.row.get(2 * k + 1) + r.nextInt(2) * r.nextInt(30));
    }
    for (int i = r.nextInt(3); i < pictures; i += 1 + r.nextInt(2)) {
      int q = r.nextInt(pictures);
      if (m.pics.get(q).state == 1 && r.nextInt(5) != 0) {
        compare(seed, said, x, m, 34, i, m.pics.get(q).wall, m.pics.get(q).x + r.nextInt(3) * r.nextInt(9));
      } else if (compare(seed, said, x, m, 19, i) > 0) {
        int k = r.nextInt(m.row.size() / 2);
        compare(seed, said, x, m, 34, i, m.row.get(2 * k), m.row.get(2 * k + 1));
      }
    }
    for (int i = 0; i < 6; i++) compare(seed, said, x, m, 35, 1 + r.nextInt(4), 1 + r.nextInt(4));
    if (r.nextInt(8) == 0) compare(seed, said, x, m, r.nextBoolean() ? 16 : 15, r.nextInt(pictures));
    compare(seed, said, x, m, 35, 1 + r.nextInt(8), 1 + r.nextInt(8));
    compare(seed, said, x, m, 36);
    compareStates(seed, said, x, m);
    compare(seed, said, x, m, 35, 1 + r.nextInt(8), 1 + r.nextInt(8));
  }

  /** Pictures that like one another or not, fellows and foes: rows for walls. */
  private static void runRows(int seed) {
    Random r = new Random(seed);
    GalleryWalls x = new GalleryWalls();
    Model m = new Model();
    StringBuilder said = new StringBuilder();
    compare(seed, said, x, m, 0);
    compare(seed, said, x, m, 2, 0, 300 + r.nextInt(700), 250 + r.nextInt(100), 20 + r.nextInt(100));
    compare(seed, said, x, m, 2, 0, 900, 300, 200);
    int pictures = 3 + r.nextInt(8);
    for (int i = 0; i < pictures; i++) compare(seed, said, x, m, 6, 20 + r.nextInt(60), 50 + r.nextInt(r.nextInt(4) == 0 ? 300 : 100), 1 + r.nextInt(20), r.nextInt(8), 0, 0, 0);
    int most = 1 + r.nextInt(9);
    for (int i = 0; i < 40; i++) compare(seed, said, x, m, 25, r.nextInt(8), r.nextInt(8), r.nextInt(2 * most + 1) - most);
    for (int i = r.nextInt(4); i > 0; i--) compare(seed, said, x, m, 7, r.nextInt(pictures), 0, r.nextInt(pictures));
    for (int i = r.nextInt(3); i > 0; i--) compare(seed, said, x, m, 7, r.nextInt(pictures), 1, r.nextInt(pictures));
    for (int i = 0; i < 6; i++) {
      int bits = r.nextInt(1 << pictures) & (r.nextInt(3) == 0 ? r.nextInt(1 << pictures) : -1);
      compare(seed, said, x, m, 26, r.nextInt(2), bits);
      if (r.nextInt(3) == 0) compare(seed, said, x, m, 5, 1, r.nextInt(40));
      if (r.nextInt(9) == 0) compare(seed, said, x, m, r.nextBoolean() ? 16 : 15, r.nextInt(pictures));
      if (r.nextInt(2) == 0) compare(seed, said, x, m, 27);
      compare(seed, said, x, m, 18, r.nextInt(2));
      compare(seed, said, x, m, 37, r.nextInt(pictures));
    }
    compareStates(seed, said, x, m);
  }

  /** Texts of few signs, some of them terms, and texts of about 60 signs. */
  private static void runTerms(int seed) {
    Random r = new Random(seed);
    GalleryWalls x = new GalleryWalls();
    Model m = new Model();
    StringBuilder said = new StringBuilder();
    for (int i = 0; i < 3; i++) compare(seed, said, x, m, 0);
    compare(seed, said, x, m, 1, 1, 2, 100, 100);
    for (int i = 0; i < 3; i++) compare(seed, said, x, m, 2, i, 300, 300, 100);
    for (int i = 0; i < 3; i++) compare(seed, said, x, m, 6, 20, 20, 5, 1 + i / 2, 1900, 10, 2);
    compare(seed, said, x, m, 7, 0, 0, 1);
    compare(seed, said, x, m, 3, 2, 2, 24, 7, 3);
    for (int i = 0; i < 3; i++) compare(seed, said, x, m, 14, i, i == 0 ? 1 : 2, 100 * i);
    String signs = seed % 2 == 0 ? "rwplnsbkftya0123456789()!-+*/%<>=&|;" : "r7()!-+*<=&|;x";
    for (int i = 0; i < 40; i++) {
      StringBuilder t = new StringBuilder();
      int n = i % 4 == 0 ? 55 + r.nextInt(12) : r.nextInt(9);
      if (i % 8 == 0) while (t.length() < n) t.append(r.nextInt(3) == 0 ? "((" : r.nextBoolean() ? "!" : "-");
      if (i % 8 == 4) while (t.length() < n) { expression(r, t, 2); t.append("+;&|<".charAt(r.nextInt(5))); }
      if (i % 8 == 4) t.setLength(Math.min(n, t.length() - r.nextInt(2)));
      while (t.length() < n) t.append(signs.charAt(r.nextInt(signs.length())));
      check(seed, said, "end 0", b(x.end(0)), b(m.end(0)));
      tellText(x, m, t, said);
      compare(seed, said, x, m, 10, r.nextInt(3), 0);
      compare(seed, said, x, m, 12, r.nextInt(3), r.nextInt(3), r.nextInt(300));
    }
  }

  private static int tellText(GalleryWalls x, Model m, StringBuilder t, StringBuilder said) {
    int calls = 0;
    for (int i = 0; i < t.length(); i += 4) {
      int v = 0;
      for (int k = 0; k < 4; k++) v = v << 8 | (i + k < t.length() ? t.charAt(i + k) : 'q');
      check(0, said, "sign", x.sign(v), m.sign(v));
      calls++;
    }
    check(0, said, "end", b(x.end(t.length())), b(m.end(t.length())));
    return calls + 1;
  }

  private static List<Integer> rowOf(GalleryWalls x) {
    List<Integer> row = new ArrayList<>();
    for (int i = 0; i < x.count(10); i++) row.add(x.row(i));
    return row;
  }

  private static void check(int seed, StringBuilder said, String call, long got, long want) {
    if (got == want) return;
    wrong++;
    System.out.println("seed " + seed + ": " + call + " answered " + got + ", due is " + want);
    if (wrong == 1) System.out.println("the run so far:\n" + said);
  }

  private static void compareStates(int seed, StringBuilder said, GalleryWalls x, Model m) {
    for (int p = 0; p < m.pics.size(); p++) {
      for (int what = 0; what < 8; what++) check(seed, said, "at " + p + " " + what, x.at(p, what), m.at(p, what));
      check(seed, said, "force " + p, x.force(p), m.force(p));
      check(seed, said, "fades " + p, x.fades(p), m.fades(p));
    }
    for (int w = 0; w < m.walls.size(); w++)
      for (int what = 0; what < 4; what++) check(seed, said, "of " + w + " " + what, x.of(w, what), m.of(w, what));
    for (int what = -1; what < 17; what++) check(seed, said, "count " + what, x.count(what), m.count(what));
  }

  /** A text of a term that is mostly one, told by signs. */
  private static int tellTerm(Random r, GalleryWalls x, Model m, StringBuilder said) {
    StringBuilder t = new StringBuilder();
    int expressions = 1 + r.nextInt(3);
    for (int i = 0; i < expressions; i++) { if (i > 0) t.append(';'); expression(r, t, 0); }
    int faults = r.nextInt(4) == 0 ? 1 + r.nextInt(2) : 0;
    String signs = "rwplnsbkftya0123456789()!-+*/%<>=&|; x~\u00e9";
    for (int i = 0; i < faults && t.length() > 0; i++) {
      int place = r.nextInt(t.length());
      char c = signs.charAt(r.nextInt(signs.length()));
      int how = r.nextInt(3);
      if (how == 0) t.setCharAt(place, c);
      else if (how == 1) t.insert(place, c);
      else t.deleteCharAt(place);
    }
    if (t.length() > 96) t.setLength(96);
    check(0, said, "end 0", b(x.end(0)), b(m.end(0)));
    int calls = 1 + tellText(x, m, t, said);
    int p = m.pics.isEmpty() ? 0 : r.nextInt(m.pics.size());
    int night = r.nextInt(3) == 0 ? r.nextInt(401) : m.now > 0 ? r.nextInt(m.now + 1) : 0;
    int got = x.term(p, night);
    said.append("term ").append(p).append(' ').append(night).append(" '").append(t).append("' -> ").append(got).append('\n');
    check(0, said, "term '" + t + "'", got, m.term(p, night));
    if (got >= 0) good[10]++;
    return calls + 1;
  }

  private static void expression(Random r, StringBuilder t, int depth) {
    int n = depth > 3 ? 1 : 1 + r.nextInt(3);
    for (int i = 0; i < n; i++) {
      if (i > 0) t.append("+-*/%<>=&|||&&".charAt(r.nextInt(14)));
      while (r.nextInt(5) == 0) t.append(r.nextBoolean() ? '!' : '-');
      int kind = r.nextInt(depth > 2 ? 5 : 6);
      if (kind < 3) t.append("rwplnsbkftya".charAt(r.nextInt(12)));
      else if (kind < 5) t.append(r.nextInt(r.nextBoolean() ? 4 : 9999));
      else { t.append('('); expression(r, t, depth + 1); t.append(')'); }
    }
  }

  private static int some(Random r, int n) { return r.nextInt(25) == 0 ? r.nextInt(3) * (n + 1) - n - 2 + r.nextInt(2) : n == 0 ? 0 : r.nextInt(n); }

  private static int argument(int which, int i, Random r, Model m, int[] a) {
    int pic = some(r, m.pics.size()), wall = some(r, m.walls.size()), room = some(r, m.rooms);
    boolean odd = r.nextInt(40) == 0;
    if (odd && r.nextInt(3) == 0) return r.nextInt();
    switch (which) {
      case 1: return i < 2 ? room : i == 2 ? 50 + r.nextInt(r.nextInt(60) == 0 ? 400 : 150) : 100 + r.nextInt(r.nextInt(60) == 0 ? 600 : 150);
      case 2: return i == 0 ? room : i == 1 ? 50 + r.nextInt(odd ? 3000 : 700) : i == 2 ? (odd ? r.nextInt(1000) : 180 + r.nextInt(200)) : 1 + r.nextInt(odd ? 10100 : 150);
      case 3: return i == 0 ? wall : i == 1 ? (odd ? r.nextInt(6) - 1 : r.nextInt(8) == 0 ? 3 : r.nextInt(3)) : i == 2 ? (odd ? r.nextInt(30) - 3 : 12 + r.nextInt(13))
        : i == 3 ? r.nextInt(r.nextInt(5) == 0 ? 70000 : 200) - 50 : r.nextInt(r.nextInt(5) == 0 ? 3000 : 30) - 10;
      case 4: return i == 0 ? wall : r.nextInt(odd ? 30 : 24) - (odd ? 3 : 0);
      case 5: return i == 0 ? (odd ? r.nextInt(8) - 2 : r.nextInt(4)) : new int[] {r.nextInt(30), 100 + r.nextInt(110), r.nextInt(25), r.nextInt(110)}[r.nextInt(4)];
      case 6: return i < 2 ? (odd ? r.nextInt(810) : 10 + r.nextInt(r.nextInt(4) == 0 ? 260 : 90)) : i == 2 ? 1 + r.nextInt(odd ? 1000 : 30)
        : i == 3 ? (odd ? r.nextInt(10) - 1 : r.nextInt(3 + r.nextInt(6))) : i == 4 ? r.nextInt(odd ? 3100 : 3000) : i == 5 ? r.nextInt(odd ? 1010 : 1000) : r.nextInt(odd ? 10 : 8);
      case 7: {
        if (i == 0) return pic;
        if (i == 1) return odd ? r.nextInt(7) - 1 : r.nextInt(4);
        if (a[1] == 2) return odd ? r.nextInt(1100000) : r.nextInt(60000);
        if (a[1] == 3) return r.nextInt(4) == 0 ? r.nextInt(420) : 300 + r.nextInt(103);
        return r.nextInt(6) == 0 ? -1 : pic;
      }
      case 8: return r.nextInt();
      case 9: return r.nextInt(60) - 2;
      case 10: return i == 0 ? pic : r.nextInt(410) - 3;
      case 11: case 15: case 16: case 19: case 22: case 28: case 37: return which == 16 && r.nextInt(3) > 0 ? m.pics.size() : pic;
      case 12: return i == 0 ? pic : i == 1 ? wall : odd ? r.nextInt() : r.nextInt(800) - 20;
      case 13: case 14: return i == 0 ? pic : i == 1 ? wall : r.nextInt(900) - 20;
      case 17: return i == 0 ? pic : r.nextInt(10) - 1;
      case 18: return wall;
      case 20: return i == 0 ? wall : r.nextInt(6) - 1;
      case 21: return r.nextInt(6) == 0 ? r.nextInt(110) - 3 : r.nextInt(6);
      case 23: return i == 0 ? pic : i == 1 ? r.nextInt(m.now + 3) : r.nextInt(10) == 0 ? r.nextInt(420) : m.now;
      case 24: return i == 0 ? (odd ? r.nextInt(12) - 2 : r.nextInt(8)) : r.nextInt(m.now + 2) - (odd ? 2 : 0);
      case 25: return i < 2 ? (odd ? r.nextInt(12) - 2 : r.nextInt(8)) : odd ? r.nextInt(220) - 110 : r.nextInt(9) - 4;
      case 26: {
        if (i == 0) return wall;
        int bits = 0;
        int n = 1 + r.nextInt(odd ? 9 : 5);
        for (int k = 0; k < n; k++) bits |= 1 << some(r, m.pics.size());
        return bits;
      }
      case 29: return room;
      case 31: return i == 0 ? room : r.nextInt(3) == 0 ? 1 : 0;
      case 32: case 33: return i == 0 ? pic : room;
      case 34: return i == 0 ? pic : i == 1 ? wall : odd ? r.nextInt(6000) - 1500 : r.nextInt(500);
      case 35: return odd ? r.nextInt(12) - 2 : 1 + r.nextInt(4);
      case 38: return i == 0 ? room : wall;
      case 39: return odd ? r.nextInt(1200) - 100 : r.nextInt(1000);
      case 40: return r.nextInt(20) - 2;
      case 41: return r.nextInt(8) - 1;
      default: return r.nextInt();
    }
  }

  /** The call of this number, on the program or on the Model: both have it under the same name. */
  private static int answer(Object of, int which, int[] a) {
    Method call = CALLS.get(of.getClass())[which];
    Object[] told = new Object[call.getParameterCount()];
    for (int i = 0; i < told.length; i++) told[i] = call.getParameterTypes()[i] == boolean.class ? (Object) (a[i] == 1) : (Object) a[i];
    try {
      Object answer = call.invoke(of, told);
      return answer instanceof Boolean is ? b(is) : (Integer) answer;
    } catch (InvocationTargetException e) {
      if (e.getCause() instanceof NoSuchElementException) return THROWN;
      throw new IllegalStateException(call.getName() + Arrays.toString(a), e.getCause());
    } catch (IllegalAccessException e) {
      throw new IllegalStateException(e);
    }
  }

  private static Method[] callsOf(Class<?> of) {
    Method[] calls = new Method[NAMES.length];
    for (Method m : GalleryWalls.class.getDeclaredMethods()) {
      int which = Arrays.asList(NAMES).indexOf(m.getName());
      if (which < 0) continue;
      try {
        calls[which] = of.getDeclaredMethod(m.getName(), m.getParameterTypes());
      } catch (NoSuchMethodException e) {
        throw new IllegalStateException(e);
      }
    }
    return calls;
  }
}
