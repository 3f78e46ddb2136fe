import java.util.ArrayList;
import java.util.List;
import java.util.NoSuchElementException;

/** A refused call leaves all as it was: of two twins one is asked it, then both answer all questions alike. */
final class Twins {
  static final int THROWN = Integer.MIN_VALUE;
  private static final int CALLS = 512;
  private static final int MADE_BY = 115;

  interface Making { GalleryWalls make(); }

  interface Asking { int ask(GalleryWalls x); }

  private final GalleryWalls x;
  private final List<String> said = new ArrayList<>();
  private int calls = 0;

  private Twins(GalleryWalls x) { this.x = x; }

  /** The call answers this in the whole gallery, and nothing changes. */
  static void refused(String what, int want, Asking call) { refused(Twins::whole, what, want, call); }

  static void refused(Making making, String what, int want, Asking call) {
    GalleryWalls asked = making.make();
    Due.is(what, want, answer(asked, call));
    List<String> got = new Twins(asked).all();
    List<String> due = new Twins(making.make()).all();
    for (int i = 0; i < Math.min(got.size(), due.size()); i++) {
      if (got.get(i).equals(due.get(i))) continue;
      Due.fault("behind " + what + ": " + got.get(i) + ", due is " + due.get(i));
      return;
    }
    Due.is("questions behind " + what, due.size(), got.size());
  }

  /** The same for a call that answers true or false: it answers false. */
  static void no(String what, Yes call) { no(Twins::whole, what, call); }

  static void no(Making making, String what, Yes call) { refused(making, what, 0, x -> call.ask(x) ? 1 : 0); }

  interface Yes { boolean ask(GalleryWalls x); }

  private static int answer(GalleryWalls x, Asking call) {
    try {
      return call.ask(x);
    } catch (NoSuchElementException e) {
      return THROWN;
    }
  }

  /**
   * A gallery with something of everything: pictures 0 and 1 on wall 0, 2 on wall 1, 4 on wall 2,
   * 3 in the store, 5 away, 6 back; rooms 0 to 3, the last one shut; two moves; a row was found.
   */
  static GalleryWalls whole() {
    GalleryWalls x = Due.rooms(4);
    x.door(0, 1, 100, 200);
    x.door(1, 2, 60, 120);
    x.door(0, 2, 100, 200);
    x.wall(0, 500, 300, 100);
    x.wall(1, 400, 250, 60);
    x.wall(2, 300, 300, 40);
    x.light(0, 2, 24, 10, 1);
    x.light(1, 0, 20, 100, 2);
    x.blind(1, 12, 13);
    x.picture(100, 50, 20, 0, 1900, 10, 2);
    x.picture(60, 80, 20, 1, 1800, 500, 2);
    x.picture(60, 120, 10, 2, 1700, 999, 3);
    x.picture(50, 50, 5, 3, 1600, 0, 3);
    x.picture(80, 50, 15, 0, 1500, 300, 4);
    x.picture(80, 50, 15, 1, 1500, 300, 4);
    x.picture(80, 50, 15, 1, 1500, 300, 5);
    x.tell(0, 0, 1);
    x.tell(3, 1, 2);
    x.tell(0, 2, 5000);
    x.tell(6, 3, 1);
    x.hang(0, 0, 0);
    x.hang(1, 0, 150);
    x.hang(2, 1, 0);
    x.hang(4, 2, 0);
    x.send(5);
    x.step(2);
    Due.term(x, "t<40;k=0", 4, 0);
    Due.term(x, "1", 3, 1);
    x.like(0, 1, 5);
    x.like(1, 2, -3);
    x.like(3, 3, 7);
    x.best(0, 0b11);
    x.tale(2);
    x.tale(0);
    x.tale(1);
    x.route(1);
    x.route(0);
    x.shut(3, true);
    x.sight(1, 0);
    x.move(3, 0, 300);
    x.move(2, 0, 380);
    Due.tape(x, "t<50;k<9");
    x.on(0);
    return x;
  }

  private List<String> all() {
    row("at first");
    for (int what = 0; what < 16; what++) say("count " + what, x.count(what));
    int pictures = Math.min(7, x.count(3));
    int walls = Math.min(3, x.count(2));
    for (int p = 0; p < pictures; p++) picture(p, walls);
    for (int w = 0; w < walls; w++) for (int what = 0; what < 4; what++) say("of " + w + " " + what, x.of(w, what));
    for (int giver = 2; giver < 6; giver++) say("owed " + giver, x.owed(giver, x.count(5)));
    for (int p = 0; p < pictures; p++) tellsRow("places " + p, x.places(p));
    for (int p = 0; p < pictures; p++) tellsRow("stand " + p, x.stand(p));
    ways(Math.min(4, x.count(0)));
    tellsRow("guard 0", x.guard(0));
    tellsRow("guard 500", x.guard(500));
    tellsRow("breaks", x.breaks());
    tellsRow("nights", x.nights(1, 8));
    say("term", x.term(0, x.count(5)));
    for (int w = 0; w < walls; w++) say("why by the tape " + w, x.why(0, w, 0));
    say("lay", x.lay());
    hung(walls, "lay");
    say("done", x.done());
    hung(walls, "done");
    for (int p = 0; p < pictures; p++) for (int what = 1; what < 4; what++) say("tell " + p + " " + what, x.tell(p, what, what == 1 ? -1 : 0));
    for (int a = 0; a < 4; a++) for (int b = 0; b <= a; b++) say("like " + a + " " + b, x.like(a, b, 0));
    hours(Math.min(2, walls));
    if (calls + MADE_BY > CALLS) Due.fault("too many calls for one object: " + calls);
    return said;
  }

  private void say(String what, int answer) {
    calls++;
    said.add(what + " -> " + answer);
  }

  private void row(String what) {
    StringBuilder s = new StringBuilder();
    int n = x.count(10);
    for (int i = 0; i < n; i++) s.append(' ').append(x.row(i));
    calls += n + 1;
    said.add("the row, " + what + ":" + s);
  }

  private void tellsRow(String what, int answer) {
    say(what, answer);
    row(what);
  }

  private void picture(int p, int walls) {
    for (int what = 0; what < 8; what++) say("at " + p + " " + what, x.at(p, what));
    say("force " + p, x.force(p));
    say("fades " + p, x.fades(p));
    say("shown " + p, x.shown(p, 0, 400));
    for (int w = 0; w < walls; w++) say("fits " + p + " " + w, x.fits(p, w, 130));
  }

  private void ways(int rooms) {
    for (int a = 0; a < rooms; a++) for (int b = 0; b <= a; b++) tellsRow("way " + a + " " + b, x.count(3) == 0 ? 0 : x.way(0, a, b));
    say("bars", x.bars(0, 1, 2));
  }

  private void hung(int walls, String behind) {
    for (int w = 0; w < walls; w++) tellsRow("on " + w + " behind " + behind, x.on(w));
    for (int w = 0; w < walls; w++) say("free of " + w + " behind " + behind, x.of(w, 3));
  }

  private void hours(int walls) {
    calls += 27 + walls;
    x.set(2, 0);
    x.set(3, 23);
    for (int last = 23; last >= 0; last--) {
      x.set(3, last);
      for (int w = 0; w < walls; w++) say("light of " + w + " to " + last, x.of(w, 0));
    }
    x.set(3, 23);
    for (int w = 0; w < walls; w++) x.blind(w, 1, 0);
    for (int w = 0; w < walls; w++) say("light of " + w + " without blinds", x.of(w, 0));
  }
}
