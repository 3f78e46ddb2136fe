import java.util.ArrayDeque;
import java.util.ArrayList;
import java.util.Arrays;
import java.util.Collections;
import java.util.Comparator;
import java.util.HashMap;
import java.util.List;
import java.util.Map;
import java.util.NoSuchElementException;
import java.util.TreeSet;

/**
 * The document once more, as slow and as literal as can be: every order, every place, every path
 * is tried. The program is compared with it; it shares no way of working with the program.
 */
final class Model {
  static final class Pic {
    int w, h, weight, school, year, value, giver, fellow = -1, foe = -1, limit = 1000000, till = 400;
    int state, wall = -1, x = -1, had;
    TreeSet<Integer> nightsShown = new TreeSet<>();
  }
  static final class Wal { int room, length, height, bears, bf = 5, bt = 4; int[] light = new int[24]; TreeSet<Integer> seen = new TreeSet<>(); }
  static final class Ter { int pic, night; String text; }
  static final class Mov { int pic, wall, x; }
  static final class Bad extends Exception {
    private static final long serialVersionUID = 1;
    final int place;
    Bad(int place) { super(null, null, false, false); this.place = place; } }

  int rooms, now, eye = 150, gap = 20, first = 10, last = 17;
  List<int[]> doors = new ArrayList<>();
  List<Wal> walls = new ArrayList<>();
  List<Pic> pics = new ArrayList<>();
  List<Ter> terms = new ArrayList<>();
  List<Mov> moves = new ArrayList<>();
  List<Integer> tale = new ArrayList<>(), route = new ArrayList<>(), row = new ArrayList<>();
  int[][] liking = new int[8][8];
  boolean[] shutRooms = new boolean[10];
  String tape = "";
  List<Integer> laid;
  int laidWall;
  List<Integer> laidX;

  static boolean in(long v, long a, long b) { return a <= v && v <= b; }
  boolean isPic(int p) { return in(p, 0, pics.size() - 1); }
  boolean isWall(int w) { return in(w, 0, walls.size() - 1); }
  boolean isRoom(int r) { return in(r, 0, rooms - 1); }

  int room() { return rooms == 10 ? -1 : rooms++; }
  int door(int a, int b, int w, int h) {
    if (!isRoom(a) || !isRoom(b) || a == b || !in(w, 50, 400) || !in(h, 100, 600) || doors.size() == 20) return -1;
    doors.add(new int[] {a, b, w, h});
    return doors.size() - 1;
  }
  int wall(int room, int length, int height, int bears) {
    if (!isRoom(room) || !in(length, 50, 3000) || !in(height, 100, 900) || !in(bears, 1, 9999) || walls.size() == 16) return -1;
    Wal w = new Wal();
    w.room = room; w.length = length; w.height = height; w.bears = bears;
    walls.add(w);
    return walls.size() - 1;
  }
  int lit(int wall, int hour) {
    Wal w = walls.get(wall);
    if (w.bf <= w.bt && in(hour, w.bf, w.bt)) return 0;
    return w.light[hour];
  }
  int daylight(int wall) { int s = 0; for (int h = first; h <= last; h++) s += lit(wall, h); return s; }
  int peak(int wall) { int s = 0; for (int h = first; h <= last; h++) s = Math.max(s, lit(wall, h)); return s; }
  int light(int wall, int kind, int n, int f, int step) {
    if (!isWall(wall) || !in(kind, 0, 3) || n > 24) return -1;
    int[] light = walls.get(wall).light;
    if (kind == 3) { Arrays.fill(light, 0); return -3; }
    if (n < 0) return -2;
    Arrays.fill(light, 0);
    for (int i = 0; i < n; i++) {
      int v = f + i * step;
      int e = kind == 0 ? (v << 24) >> 24 : kind == 1 ? (v << 16) >> 16 : v;
      light[i] = e < 0 ? 0 : e > 9999 ? 9999 : e;
    }
    return daylight(wall);
  }
  boolean blind(int wall, int from, int to) {
    if (!isWall(wall) || !in(from, 0, 23) || !in(to, 0, 23)) return false;
    walls.get(wall).bf = from; walls.get(wall).bt = to;
    return true;
  }
  int set(int what, int v) {
    int old;
    if (what == 0 && in(v, 100, 200)) { old = eye; eye = v; return old; }
    if (what == 1 && in(v, 0, 99)) { old = gap; gap = v; return old; }
    if (what == 2 && in(v, 0, last)) { old = first; first = v; return old; }
    if (what == 3 && in(v, first, 23)) { old = last; last = v; return old; }
    return -1;
  }
  int picture(int w, int h, int weight, int school, int year, int value, int giver) {
    if (!in(w, 10, 800) || !in(h, 10, 800) || !in(weight, 1, 999) || !in(school, 0, 7) || !in(year, 0, 2999)
        || !in(value, 0, 999) || !in(giver, 0, 7) || pics.size() == 24) return -1;
    Pic p = new Pic();
    p.w = w; p.h = h; p.weight = weight; p.school = school; p.year = year; p.value = value; p.giver = giver;
    pics.add(p);
    return pics.size() - 1;
  }
  int tell(int picture, int what, int v) {
    if (!isPic(picture)) return -2;
    Pic p = pics.get(picture);
    int old;
    if (what == 0 || what == 1) {
      if (v != -1 && (!isPic(v) || v == picture)) return -2;
      if (what == 1) { old = p.foe; p.foe = v; return old; }
      old = p.fellow;
      for (Pic q : pics) if (q.fellow == picture || (v != -1 && q.fellow == v)) q.fellow = -1;
      p.fellow = v;
      if (v != -1) pics.get(v).fellow = picture;
      return old;
    }
    if (what == 2 && in(v, 0, 1000000)) { old = p.limit; p.limit = v; return old; }
    if (what == 3 && in(v, 0, 400)) { old = p.till; p.till = v; return old; }
    return -2;
  }
  int sign(int v) {
    if (tape.length() + 4 > 100) return -1;
    for (int s = 24; s >= 0; s -= 8) tape += (char) ((v >> s) & 255);
    return tape.length();
  }
  boolean end(int n) {
    if (!in(n, 0, tape.length())) return false;
    tape = tape.substring(0, n);
    return true;
  }

  // ---- terms: read by going down
  String text;
  int pos;
  Map<Character, Integer> letters = new HashMap<>();
  char peekSign() { return pos < text.length() ? text.charAt(pos) : 0; }
  int expr() throws Bad {
    int v = and();
    while (peekSign() == '|') { pos++; int b = and(); v = (v != 0) | (b != 0) ? 1 : 0; }
    return v;
  }
  int and() throws Bad {
    int v = cmp();
    while (peekSign() == '&') { pos++; int b = cmp(); v = (v != 0) & (b != 0) ? 1 : 0; }
    return v;
  }
  int cmp() throws Bad {
    int v = sum();
    char c = peekSign();
    if (c == '<' || c == '>' || c == '=') {
      pos++;
      int b = sum();
      v = (c == '<' ? v < b : c == '>' ? v > b : v == b) ? 1 : 0;
    }
    return v;
  }
  int sum() throws Bad {
    int v = mul();
    for (char c = peekSign(); c == '+' || c == '-'; c = peekSign()) { pos++; int b = mul(); v = c == '+' ? v + b : v - b; }
    return v;
  }
  int mul() throws Bad {
    int v = ahead();
    for (char c = peekSign(); c == '*' || c == '/' || c == '%'; c = peekSign()) {
      pos++;
      int b = ahead();
      v = c == '*' ? v * b : b == 0 ? 0 : c == '/' ? v / b : v % b;
    }
    return v;
  }
  int ahead() throws Bad {
    char c = peekSign();
    if (c == '!') { pos++; return ahead() == 0 ? 1 : 0; }
    if (c == '-') { pos++; return -ahead(); }
    return thing();
  }
  int thing() throws Bad {
    char c = peekSign();
    if (c == '(') {
      pos++;
      int v = expr();
      if (peekSign() != ')') throw new Bad(pos);
      pos++;
      return v;
    }
    if (c >= '0' && c <= '9') {
      int v = 0;
      for (int i = 0; i < 4 && peekSign() >= '0' && peekSign() <= '9'; i++) { v = 10 * v + peekSign() - '0'; pos++; }
      return v;
    }
    if (c != 0 && "rwplnsbkftya".indexOf(c) >= 0) { pos++; return letters.getOrDefault(c, 0); }
    throw new Bad(pos);
  }
  /** The values of the expressions; or where it goes wrong. */
  List<Integer> read(String t) throws Bad {
    text = t;
    pos = 0;
    List<Integer> values = new ArrayList<>();
    values.add(expr());
    while (pos < text.length()) {
      if (text.charAt(pos) != ';') throw new Bad(pos);
      pos++;
      values.add(expr());
    }
    return values;
  }
  int term(int picture, int night) {
    String t = tape;
    tape = "";
    if (!isPic(picture) || !in(night, 0, 400) || terms.size() == 30) return -100;
    String first60 = t.length() > 60 ? t.substring(0, 60) : t;
    try {
      read(first60);
    } catch (Bad b) {
      return -1 - b.place;
    }
    if (t.length() > 60) return -61;
    Ter ter = new Ter();
    ter.pic = picture; ter.night = night; ter.text = t;
    terms.add(ter);
    return terms.size() - 1;
  }
  int force(int picture) {
    int found = -1;
    for (int night = 0; night <= now; night++)
      for (int i = 0; i < terms.size(); i++)
        if (terms.get(i).pic == picture && terms.get(i).night == night) found = i;
    return found;
  }
  List<Integer> othersByX(int picture, int wall) {
    List<Integer> found = new ArrayList<>();
    for (int i = 0; i < pics.size(); i++) if (i != picture && pics.get(i).state == 1 && pics.get(i).wall == wall) found.add(i);
    found.sort(Comparator.comparing((Integer i) -> pics.get(i).x).thenComparing(i -> i));
    return found;
  }
  int left(int picture, int wall, int x) {
    int found = -1;
    for (int q : othersByX(picture, wall)) if (pics.get(q).x <= x) found = q;
    return found;
  }
  int right(int picture, int wall, int x) {
    for (int q : othersByX(picture, wall)) if (pics.get(q).x > x) return q;
    return -1;
  }
  int fromEntry(int room) {
    int[] far = new int[10];
    Arrays.fill(far, 99);
    far[0] = 0;
    ArrayDeque<Integer> todo = new ArrayDeque<>(List.of(0));
    while (!todo.isEmpty()) {
      int r = todo.poll();
      for (int[] d : doors) for (int k = 0; k < 2; k++)
        if (d[k] == r && far[d[1 - k]] == 99) { far[d[1 - k]] = far[r] + 1; todo.add(d[1 - k]); }
    }
    return far[room];
  }
  int why(int picture, int wall, int x) {
    if (!isPic(picture) || !isWall(wall)) return -1;
    int t = force(picture);
    if (t < 0) return -2;
    Pic p = pics.get(picture);
    letters.clear();
    int l = left(picture, wall, x), r = right(picture, wall, x);
    letters.put('r', walls.get(wall).room);
    letters.put('w', wall);
    letters.put('p', peak(wall));
    letters.put('l', daylight(wall));
    int n = 0, s = 0, b = 0, k = 0;
    for (int q : new int[] {l, r}) if (q >= 0) { n++; if (pics.get(q).school == p.school) s++; if (p.fellow == q) b = 1; }
    for (int q = 0; q < pics.size(); q++)
      if (q != picture && pics.get(q).state == 1 && walls.get(pics.get(q).wall).room == walls.get(wall).room) k++;
    letters.put('n', n);
    letters.put('s', s);
    letters.put('b', b);
    letters.put('k', k);
    letters.put('f', p.limit - p.had);
    letters.put('t', now);
    letters.put('y', p.year);
    letters.put('a', fromEntry(walls.get(wall).room));
    try {
      int i = read(terms.get(t).text).indexOf(0);
      return i < 0 ? -2 : i;
    } catch (Bad bad) {
      throw new IllegalStateException("a term that was taken is none");
    }
  }
  boolean apart(Pic a, int ax, Pic b, int bx) { return bx - (ax + a.w) >= gap || ax - (bx + b.w) >= gap; }
  int bodily(int picture, int wall, int x) {
    Pic p = pics.get(picture);
    Wal w = walls.get(wall);
    if (x < 0 || (long) x + p.w > w.length) return 1;
    if (p.h > 2 * eye || p.h > 2 * (w.height - eye)) return 2;
    int weight = p.weight;
    for (int q : othersByX(picture, wall)) { if (!apart(p, x, pics.get(q), pics.get(q).x)) return 3; weight += pics.get(q).weight; }
    return weight > w.bears ? 4 : 0;
  }
  int fits(int picture, int wall, int x) {
    if (!isPic(picture) || !isWall(wall) || pics.get(picture).state > 1) return -1;
    int b = bodily(picture, wall, x);
    if (b != 0) return b;
    for (int q = 0; q < pics.size(); q++) {
      Pic o = pics.get(q);
      if (o.state == 1 && walls.get(o.wall).room == walls.get(wall).room && (o.foe == picture || pics.get(picture).foe == q)) return 5;
    }
    return why(picture, wall, x) == -2 ? 0 : 6;
  }
  void put(int p, int state, int wall, int x) { Pic q = pics.get(p); q.state = state; q.wall = wall; q.x = x; }
  int hang(int picture, int wall, int x) {
    int f = fits(picture, wall, x);
    if (f == 0) put(picture, 1, wall, x);
    return f;
  }
  boolean store(int p) {
    if (!isPic(p) || pics.get(p).state == 0 || pics.get(p).state == 3) return false;
    put(p, 0, -1, -1);
    return true;
  }
  boolean send(int p) {
    if (!isPic(p) || pics.get(p).state >= 2) return false;
    put(p, 2, -1, -1);
    return true;
  }
  int at(int picture, int what) {
    if (!isPic(picture)) throw new NoSuchElementException();
    Pic p = pics.get(picture);
    boolean hung = p.state == 1;
    switch (what) {
      case 0: return p.state;
      case 1: return p.wall;
      case 2: return p.x;
      case 3: return p.had;
      case 4: return hung ? left(picture, p.wall, p.x) : -1;
      case 5: return hung ? right(picture, p.wall, p.x) : -1;
      case 6: return hung ? walls.get(p.wall).room : -1;
      case 7: return p.fellow;
      default: throw new NoSuchElementException();
    }
  }
  int on(int wall) {
    if (!isWall(wall)) return -1;
    row = othersByX(-1, wall);
    return row.size();
  }
  int places(int picture) {
    if (!isPic(picture) || pics.get(picture).state > 1) return -1;
    row = new ArrayList<>();
    for (int w = 0; w < walls.size(); w++)
      for (int x = 0; x < walls.get(w).length; x++)
        if (fits(picture, w, x) == 0) { row.add(w); row.add(x); break; }
    return row.size() / 2;
  }
  int of(int wall, int what) {
    if (!isWall(wall)) return -1;
    int weight = 0, free = walls.get(wall).length;
    for (int q : othersByX(-1, wall)) { weight += pics.get(q).weight; free -= pics.get(q).w; }
    return what == 0 ? daylight(wall) : what == 1 ? peak(wall) : what == 2 ? weight : what == 3 ? free : -1;
  }
  int step(int n) {
    if (!in(n, 0, 100) || now + n > 400) return -1;
    for (int i = 0; i < n; i++) {
      for (Pic p : pics) if (p.state == 1) { p.had += daylight(p.wall); p.nightsShown.add(now); }
      now++;
      for (int p = 0; p < pics.size(); p++) if (pics.get(p).till <= now) put(p, 3, -1, -1);
    }
    return now;
  }
  int fades(int picture) {
    if (!isPic(picture) || pics.get(picture).state != 1) return -1;
    Pic p = pics.get(picture);
    long had = p.had;
    if (had > p.limit) return now;
    for (int night = now; night < 400; night++) {
      had += daylight(p.wall);
      if (had > p.limit) return night;
    }
    return -1;
  }
  int shown(int picture, int from, int to) {
    if (!isPic(picture) || !in(from, 0, 400) || !in(to, 0, 400) || to < from) return -1;
    return pics.get(picture).nightsShown.subSet(from, to).size();
  }
  int owed(int giver, int n) {
    if (!in(giver, 0, 7) || !in(n, 0, now)) return -1;
    int owed = 0;
    for (Pic p : pics) if (p.giver == giver)
      for (int night = now - n; night < now; night++) if (!p.nightsShown.contains(night)) owed++;
    return owed;
  }
  int like(int a, int b, int v) {
    if (!in(a, 0, 7) || !in(b, 0, 7) || !in(v, -99, 99)) throw new NoSuchElementException();
    int old = liking[a][b];
    liking[a][b] = liking[b][a] = v;
    return old;
  }
  void orders(List<Integer> ahead, List<Integer> rest, List<List<Integer>> all) {
    if (rest.isEmpty()) { all.add(new ArrayList<>(ahead)); return; }
    for (int i = 0; i < rest.size(); i++) {
      List<Integer> less = new ArrayList<>(rest);
      ahead.add(less.remove(i));
      orders(ahead, less, all);
      ahead.remove(ahead.size() - 1);
    }
  }
  int best(int wall, int bits) {
    if (!isWall(wall) || bits == 0 || Integer.bitCount(bits) > 7) throw new NoSuchElementException();
    List<Integer> told = new ArrayList<>();
    for (int i = 0; i < 32; i++) if ((bits >>> i) % 2 != 0) told.add(i);
    int weight = 0, length = -gap;
    for (int p : told) {
      if (!isPic(p) || pics.get(p).state > 1) throw new NoSuchElementException();
      Pic q = pics.get(p);
      if (q.h > 2 * eye || q.h > 2 * (walls.get(wall).height - eye) || told.contains(q.foe)) throw new NoSuchElementException();
      weight += q.weight;
      length += q.w + gap;
    }
    if (weight > walls.get(wall).bears || length > walls.get(wall).length) throw new NoSuchElementException();
    List<List<Integer>> all = new ArrayList<>();
    orders(new ArrayList<>(), told, all);
    List<Integer> best = null;
    int most = 0;
    for (List<Integer> o : all) {
      int worth = 0;
      boolean good = true;
      for (int i = 0; i < o.size(); i++) {
        int f = o.indexOf(pics.get(o.get(i)).fellow);
        if (f >= 0 && Math.abs(f - i) != 1) good = false;
        if (i > 0) worth += liking[pics.get(o.get(i)).school][pics.get(o.get(i - 1)).school];
      }
      if (good && (best == null || worth > most)) { best = o; most = worth; }
    }
    if (best == null) throw new NoSuchElementException();
    row = new ArrayList<>(best);
    laid = best;
    laidWall = wall;
    laidX = new ArrayList<>();
    int x = (walls.get(wall).length - length) / 2;
    for (int p : best) { laidX.add(x); x += pics.get(p).w + gap; }
    return most;
  }
  int lay() {
    if (laid == null) return -1;
    for (int p : laid) if (pics.get(p).state > 1) return -1;
    for (int q : othersByX(-1, laidWall)) put(q, 0, -1, -1);
    for (int i = 0; i < laid.size(); i++) put(laid.get(i), 1, laidWall, laidX.get(i));
    int n = laid.size();
    laid = null;
    return n;
  }
  int tale(int p) {
    if (!isPic(p) || tale.contains(p) || tale.size() == 12) return -1;
    tale.add(p);
    return tale.size();
  }
  int route(int r) {
    if (!isRoom(r) || route.contains(r) || route.size() == 10) return -1;
    route.add(r);
    return route.size();
  }
  int breaks() {
    List<Integer> met = new ArrayList<>();
    for (int r : route) for (int w = 0; w < walls.size(); w++) if (walls.get(w).room == r) met.addAll(othersByX(-1, w));
    met.retainAll(tale);
    List<Integer> best = null;
    for (int keep = 0; keep < 1 << tale.size(); keep++) {
      List<Integer> kept = new ArrayList<>();
      int before = -1;
      boolean good = true;
      for (int i = 0; i < tale.size() && good; i++) if ((keep >> i) % 2 == 1) {
        int m = met.indexOf(tale.get(i));
        good = m > before;
        before = m;
        kept.add(i);
      }
      if (!good) continue;
      boolean better = best == null || kept.size() > best.size();
      if (!better && kept.size() == best.size())
        for (int i = 0; i < kept.size(); i++) if (!kept.get(i).equals(best.get(i))) { better = kept.get(i) < best.get(i); break; }
      if (better) best = kept;
    }
    row = new ArrayList<>();
    for (int i : best) row.add(tale.get(i));
    return met.size() - row.size();
  }
  boolean shut(int r, boolean is) {
    if (!isRoom(r)) return false;
    shutRooms[r] = is;
    return true;
  }
  boolean passes(Pic p, int[] d) { return (p.w <= d[2] && p.h <= d[3]) || (p.w <= d[3] && p.h <= d[2]); }
  /** All paths, shorter ones first, of as long ones the least rooms first. */
  List<Integer> path(Pic p, int from, int to, int also) {
    if (shutRooms[from] || shutRooms[to]) return null;
    for (int length = 0; length < rooms; length++) {
      List<Integer> found = path(p, new ArrayList<>(List.of(from)), to, also, length);
      if (found != null) return found;
    }
    return null;
  }
  List<Integer> path(Pic p, List<Integer> sofar, int to, int also, int length) {
    int r = sofar.get(sofar.size() - 1);
    if (length == 0) return r == to ? sofar : null;
    for (int next = 0; next < rooms; next++) {
      if (shutRooms[next] || sofar.contains(next)) continue;
      boolean open = false;
      for (int d = 0; d < doors.size(); d++) {
        int[] e = doors.get(d);
        if ((e[0] == r && e[1] == next || e[1] == r && e[0] == next) && (d == also || passes(p, e))) open = true;
      }
      if (!open) continue;
      List<Integer> more = new ArrayList<>(sofar);
      more.add(next);
      List<Integer> found = path(p, more, to, also, length - 1);
      if (found != null) return found;
    }
    return null;
  }
  int way(int picture, int from, int to) {
    if (!isPic(picture) || !isRoom(from) || !isRoom(to)) return -1;
    List<Integer> found = path(pics.get(picture), from, to, -1);
    if (found == null) return -2;
    row = found;
    return found.size() - 1;
  }
  int bars(int picture, int from, int to) {
    if (!isPic(picture) || !isRoom(from) || !isRoom(to)) return -1;
    if (path(pics.get(picture), from, to, -1) != null) return -2;
    for (int d = 0; d < doors.size(); d++) if (path(pics.get(picture), from, to, d) != null) return d;
    return -1;
  }
  int move(int picture, int wall, int x) {
    if (!isPic(picture) || !isWall(wall) || pics.get(picture).state > 1 || !in(x, -1000, 4000) || moves.size() == 8) return -1;
    for (Mov m : moves) if (m.pic == picture) return -1;
    Mov m = new Mov();
    m.pic = picture; m.wall = wall; m.x = x;
    moves.add(m);
    return moves.size() - 1;
  }
  int[][] places() {
    int[][] at = new int[pics.size()][];
    for (int i = 0; i < at.length; i++) { Pic p = pics.get(i); at[i] = new int[] {p.state, p.wall, p.x}; }
    return at;
  }
  void restore(int[][] at) { for (int i = 0; i < at.length; i++) put(i, at[i][0], at[i][1], at[i][2]); }
  boolean canDo(int m) {
    Mov v = moves.get(m);
    return pics.get(v.pic).state <= 1 && bodily(v.pic, v.wall, v.x) == 0;
  }
  /** If the moves of a set can be done one by one from here (the pictures hang as they do). */
  boolean someOrder(int set) {
    if (set == 0) return true;
    for (int m = 0; m < moves.size(); m++) if ((set >> m) % 2 == 1 && canDo(m)) {
      int[][] at = places();
      put(moves.get(m).pic, 1, moves.get(m).wall, moves.get(m).x);
      boolean good = someOrder(set - (1 << m));
      restore(at);
      if (good) return true;
    }
    return false;
  }
  Map<Integer, List<Integer>> plans = new HashMap<>();
  List<Integer> plan(int left, int g, int r, Map<Integer, Integer> touched) {
    if (left == 0) return new ArrayList<>();
    if (plans.containsKey(left)) return plans.get(left);
    List<Integer> best = null;
    for (int set = 1; set <= left; set++) {
      if ((set & left) != set || Integer.bitCount(set) > g || Integer.bitCount(touched.get(set)) > r || !someOrder(set)) continue;
      int[][] at = places();
      for (int m = 0; m < moves.size(); m++) if ((set >> m) % 2 == 1) put(moves.get(m).pic, 1, moves.get(m).wall, moves.get(m).x);
      List<Integer> rest = plan(left - set, g, r, touched);
      restore(at);
      if (rest != null && (best == null || rest.size() + 1 < best.size())) {
        best = new ArrayList<>(rest);
        best.add(0, set);
      }
    }
    plans.put(left, best);
    return best;
  }
  int nights(int g, int r) {
    if (!in(g, 1, 8) || !in(r, 1, 8)) return -1;
    plans.clear();
    Map<Integer, Integer> touched = new HashMap<>();
    for (int set = 0; set < 1 << moves.size(); set++) {
      int t = 0;
      for (int m = 0; m < moves.size(); m++) if ((set >> m) % 2 == 1) {
        Pic p = pics.get(moves.get(m).pic);
        t |= 1 << walls.get(moves.get(m).wall).room;
        if (p.state == 1) t |= 1 << walls.get(p.wall).room;
      }
      touched.put(set, t);
    }
    List<Integer> found = plan((1 << moves.size()) - 1, g, r, touched);
    if (found == null) return -2;
    row = found;
    return found.size();
  }
  int done() {
    for (Mov m : moves) if (pics.get(m.pic).state > 1) return -2;
    int[][] at = places();
    for (Mov m : moves) put(m.pic, 1, m.wall, m.x);
    for (Mov m : moves) if (bodily(m.pic, m.wall, m.x) != 0) { restore(at); return -2; }
    int n = moves.size();
    moves.clear();
    return n;
  }
  int stand(int picture) {
    if (!isPic(picture) || pics.get(picture).state != 1) return -1;
    Pic p = pics.get(picture);
    int wall = p.wall, x = p.x;
    List<Integer> found = new ArrayList<>();
    Map<Integer, Integer> sums = new HashMap<>();
    put(picture, 0, -1, -1);
    for (int q = 0; q < pics.size(); q++) {
      if (q == picture || pics.get(q).state != 0 || fits(q, wall, x) != 0) continue;
      int sum = 0;
      for (int o : new int[] {left(q, wall, x), right(q, wall, x)}) if (o >= 0) sum += liking[pics.get(q).school][pics.get(o).school];
      found.add(q);
      sums.put(q, sum);
    }
    put(picture, 1, wall, x);
    found.sort(Comparator.comparing((Integer q) -> -sums.get(q)).thenComparing(q -> q));
    row = found;
    return found.size();
  }
  boolean sight(int room, int wall) {
    if (!isRoom(room) || !isWall(wall) || walls.get(wall).room == room) return false;
    walls.get(wall).seen.add(room);
    return true;
  }
  int guard(int v) {
    if (!in(v, 0, 999)) return -1;
    List<int[]> found = new ArrayList<>();
    for (int set = 0; set < 1 << rooms; set++) {
      boolean good = true;
      for (Pic p : pics) if (p.state == 1 && p.value >= v) {
        boolean seen = (set >> walls.get(p.wall).room) % 2 == 1;
        for (int r : walls.get(p.wall).seen) if ((set >> r) % 2 == 1) seen = true;
        if (!seen) good = false;
      }
      if (good) found.add(new int[] {Integer.bitCount(set), set});
    }
    found.sort(Comparator.comparing((int[] a) -> a[0]).thenComparing(a -> a[1]));
    row = new ArrayList<>(Collections.singletonList(found.get(0)[1]));
    return found.get(0)[0];
  }
  int count(int what) {
    int hung = 0;
    for (Pic p : pics) if (p.state == 1) hung++;
    int[] all = {rooms, doors.size(), walls.size(), pics.size(), terms.size(), now, hung, tale.size(), route.size(),
      moves.size(), row.size(), tape.length(), first, last, eye, gap};
    return in(what, 0, 15) ? all[what] : -1;
  }
  int row(int i) {
    if (!in(i, 0, row.size() - 1)) throw new NoSuchElementException();
    return row.get(i);
  }
}
