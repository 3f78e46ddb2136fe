/** The edges of promises 23 to 26, each sentence by itself: nights, light that fades, what was shown and is owed. */
public final class NightEdgeTest {
  private static final int LEAST = Integer.MIN_VALUE;
  private static final int MOST = Integer.MAX_VALUE;
  private static final int[] NO_PICTURE = {-1, 7, 24, LEAST, MOST};

  public static void main(String[] args) throws Exception { Due.each(NightEdgeTest.class); }

  /** Wall 0 has a DAYLIGHT of 80, wall 1 none; pictures in the store, of giver 1. */
  private static GalleryWalls house(int pictures) {
    GalleryWalls x = Due.rooms(1);
    x.wall(0, 500, 300, 300);
    x.wall(0, 500, 300, 300);
    x.light(0, 2, 24, 10, 0);
    for (int i = 0; i < pictures; i++) x.picture(20, 20, 1, 0, 0, 0, 1);
    return x;
  }

  private static void until(GalleryWalls x, int night) {
    while (x.count(5) < night) x.step(Math.min(100, night - x.count(5)));
  }

  // ---- promise 23: step

  static void promise23_noNight() {
    Twins.refused("step(0) answers NOW", 2, x -> x.step(0));
    GalleryWalls x = house(1);
    x.tell(0, 3, 0);
    x.hang(0, 0, 0);
    Due.is("step(0)", 0, x.step(0));
    Due.is("no NIGHT, so it is not BACK", 1, x.at(0, 0));
  }

  static void promise23_from0To100() {
    Due.is("one", 1, house(0).step(1));
    Due.is("99", 99, house(0).step(99));
    Due.is("100", 100, house(0).step(100));
    for (int n : new int[] {-1, 101, 400, LEAST, MOST}) Twins.refused("step " + n, -1, x -> x.step(n));
  }

  static void promise23_notAbove400() {
    GalleryWalls x = house(0);
    until(x, 399);
    Due.is("399 and 2", -1, x.step(2));
    Due.is("NOW", 399, x.count(5));
    Due.is("399 and 1", 400, x.step(1));
    Due.is("400 and 1", -1, x.step(1));
    Due.is("400 and 100", -1, x.step(100));
    Due.is("400 and 0", 400, x.step(0));
    Due.is("NOW", 400, x.count(5));
  }

  static void promise23_aRefusedStepTakesNoPartOfIt() {
    Twins.refused(() -> {
      GalleryWalls x = Twins.whole();
      until(x, 350);
      return x;
    }, "350 and 51", -1, x -> x.step(51));
  }

  static void promise23_justTo400() {
    GalleryWalls x = house(0);
    until(x, 350);
    Due.is("350 and 50", 400, x.step(50));
  }

  static void promise23_onlyHungOnesHaveMoreLight() {
    GalleryWalls x = house(4);
    x.hang(0, 0, 0);
    x.hang(1, 1, 0);
    x.send(2);
    x.step(1);
    int[] want = {80, 0, 0, 0};
    for (int p = 0; p < 4; p++) Due.is("HAD of " + p, want[p], x.at(p, 3));
    x.step(2);
    Due.is("three NIGHTS", 240, x.at(0, 3));
  }

  static void promise23_daylightOfThatNight() {
    GalleryWalls x = house(1);
    x.hang(0, 0, 0);
    x.step(1);
    x.blind(0, 10, 16);
    x.step(1);
    Due.is("BLINDS are down", 90, x.at(0, 3));
    x.set(3, 23);
    x.blind(0, 1, 0);
    x.step(1);
    Due.is("longer open", 90 + 140, x.at(0, 3));
    x.light(0, 3, 0, 0, 0);
    x.step(1);
    Due.is("no sheet", 230, x.at(0, 3));
  }

  static void promise23_theMostLightOfAll() {
    GalleryWalls x = house(1);
    x.set(2, 0);
    x.set(3, 23);
    x.light(0, 2, 24, 9999, 0);
    x.hang(0, 0, 0);
    until(x, 400);
    Due.is("HAD", 400 * 24 * 9999, x.at(0, 3));
  }

  static void promise23_backAreThoseWhoseTillIsNotAboveNow() {
    GalleryWalls x = house(4);
    int[] till = {0, 3, 4, 5};
    for (int p = 0; p < 4; p++) x.tell(p, 3, till[p]);
    int[][] want = {{0, 0, 0, 0}, {3, 0, 0, 0}, {3, 0, 0, 0}, {3, 3, 0, 0}, {3, 3, 3, 0}, {3, 3, 3, 3}};
    for (int night = 0; night < want.length; night++) {
      for (int p = 0; p < 4; p++) Due.is("NOW " + night + ", TILL " + till[p], want[night][p], x.at(p, 0));
      x.step(1);
    }
  }

  static void promise23_backWhereverTheyAre() {
    GalleryWalls x = house(3);
    for (int p = 0; p < 3; p++) x.tell(p, 3, 1);
    x.hang(0, 0, 0);
    x.send(1);
    x.step(1);
    for (int p = 0; p < 3; p++) {
      Due.is("BACK", 3, x.at(p, 0));
      Due.is("no WALL", -1, x.at(p, 1));
      Due.is("no x", -1, x.at(p, 2));
    }
    Due.is("off its WALL", 0, x.on(0));
  }

  static void promise23_theNightWithWhichItGoesBackIsShown() {
    GalleryWalls x = house(1);
    x.tell(0, 3, 2);
    x.hang(0, 0, 0);
    x.step(5);
    Due.is("HAD", 160, x.at(0, 3));
    Due.is("SHOWN", 2, x.shown(0, 0, 5));
  }

  static void promise23_backIsForEver() {
    GalleryWalls x = house(1);
    x.tell(0, 3, 1);
    x.step(1);
    x.tell(0, 3, 400);
    x.step(1);
    Due.is("BACK", 3, x.at(0, 0));
    Due.no("store", x.store(0));
    Due.no("send", x.send(0));
    Due.is("hang", -1, x.hang(0, 0, 0));
  }

  static void promise23_allGoBackAtTheLastNight() {
    GalleryWalls x = house(2);
    x.hang(0, 0, 0);
    until(x, 399);
    Due.is("HUNG", 1, x.at(0, 0));
    Due.is("in the STORE", 0, x.at(1, 0));
    x.step(1);
    Due.is("TILL is 400", 3, x.at(0, 0));
    Due.is("TILL is 400, too", 3, x.at(1, 0));
    Due.is("SHOWN on all", 400, x.shown(0, 0, 400));
  }

  static void promise23_aPictureOfTheLastNightStays() {
    GalleryWalls x = house(0);
    until(x, 400);
    x.picture(20, 20, 1, 0, 0, 0, 1);
    Due.is("hang", 0, x.hang(0, 0, 0));
    Due.is("no NIGHT more", 400, x.step(0));
    Due.is("TILL is 400, but none goes BACK", 1, x.at(0, 0));
    Due.is("HAD", 0, x.at(0, 3));
  }

  // ---- promise 24: fades

  private static void fades(int limit, int now, int want) {
    GalleryWalls x = house(1);
    x.hang(0, 0, 0);
    until(x, now);
    x.tell(0, 2, limit);
    Due.is("LIMIT " + limit + ", NOW " + now, want, x.fades(0));
  }

  static void promise24_withThisNight() {
    fades(0, 0, 0);
    fades(79, 0, 0);
    fades(159, 1, 1);
    fades(80, 1, 1);
  }

  static void promise24_justAtTheLimitIsNotAbove() {
    fades(80, 0, 1);
    fades(160, 1, 2);
    fades(159, 0, 1);
    fades(160, 0, 2);
  }

  static void promise24_soAlready() {
    fades(79, 1, 1);
    fades(0, 1, 1);
    fades(0, 7, 7);
    GalleryWalls x = house(1);
    x.hang(0, 0, 0);
    x.step(2);
    x.tell(0, 2, 159);
    x.hang(0, 1, 0);
    Due.is("so already, without light", 2, x.fades(0));
    x.tell(0, 2, 160);
    Due.is("just at the LIMIT, without light", -1, x.fades(0));
  }

  static void promise24_byNight399() {
    fades(80 * 399, 0, 399);
    fades(80 * 400 - 1, 0, 399);
    fades(80 * 399 - 1, 0, 398);
    fades(80 * 400 - 1, 399, 399);
    fades(80 * 400 - 1, 200, 399);
  }

  static void promise24_notByNight399() {
    fades(80 * 400, 0, -1);
    fades(80 * 400, 399, -1);
    fades(1000000, 0, -1);
    fades(1000000, 200, -1);
  }

  static void promise24_theLeastLight() {
    GalleryWalls x = house(1);
    x.light(0, 2, 11, 0, 0);
    x.hang(0, 0, 0);
    x.tell(0, 2, 0);
    Due.is("none", -1, x.fades(0));
    x.set(2, 0);
    Due.is("1", 1, x.light(0, 2, 1, 1, 0));
    Due.is("LIMIT 0", 0, x.fades(0));
    x.tell(0, 2, 5);
    Due.is("LIMIT 5", 5, x.fades(0));
    x.tell(0, 2, 399);
    Due.is("LIMIT 399", 399, x.fades(0));
    x.tell(0, 2, 400);
    Due.is("LIMIT 400", -1, x.fades(0));
  }

  static void promise24_theGreatestNumbers() {
    GalleryWalls x = house(1);
    x.set(2, 0);
    x.set(3, 23);
    x.light(0, 2, 24, 9999, 0);
    x.hang(0, 0, 0);
    Due.is("1000000 of 239976 a NIGHT", 4, x.fades(0));
    x.step(4);
    Due.is("with this one", 4, x.fades(0));
    x.step(1);
    Due.is("so already", 5, x.fades(0));
    until(x, 399);
    Due.is("so already in NIGHT 399", 399, x.fades(0));
  }

  static void promise24_notHung() {
    Twins.refused("in the STORE", -1, x -> x.fades(3));
    Twins.refused("AWAY", -1, x -> x.fades(5));
    Twins.refused("BACK", -1, x -> x.fades(6));
    GalleryWalls x = house(1);
    x.hang(0, 0, 0);
    x.step(1);
    x.tell(0, 2, 0);
    x.store(0);
    Due.is("so already, but not HUNG", -1, x.fades(0));
  }

  static void promise24_noneSuch() {
    for (int p : NO_PICTURE) Twins.refused("PICTURE " + p, -1, x -> x.fades(p));
  }

  static void promise24_ifItStayedWhereItIs() {
    GalleryWalls x = house(1);
    x.hang(0, 0, 0);
    x.tell(0, 2, 400);
    x.tell(0, 3, 2);
    Due.is("though it goes BACK before", 5, x.fades(0));
  }

  static void promise24_atNight400() {
    GalleryWalls x = house(0);
    until(x, 400);
    x.picture(20, 20, 1, 0, 0, 0, 1);
    Due.is("hang", 0, x.hang(0, 0, 0));
    x.tell(0, 2, 0);
    Due.is("no NIGHT is left", -1, x.fades(0));
  }

  // ---- promise 25: shown

  /** Picture 0 is SHOWN on NIGHTS 2, 3 and 5, picture 1 on none; NOW is 6. */
  private static GalleryWalls someNights() {
    GalleryWalls x = house(2);
    x.step(2);
    x.hang(0, 1, 0);
    x.step(2);
    x.store(0);
    x.step(1);
    x.hang(0, 0, 0);
    x.step(1);
    return x;
  }

  private static void shown(int from, int to, int want) {
    Due.is("from " + from + " to " + to, want, someNights().shown(0, from, to));
  }

  static void promise25_fromANightToOneLessThanANight() {
    shown(2, 3, 1);
    shown(2, 4, 2);
    shown(3, 4, 1);
    shown(1, 2, 0);
    shown(4, 5, 0);
    shown(5, 6, 1);
    shown(2, 6, 3);
    shown(3, 6, 2);
  }

  static void promise25_noNight() {
    shown(0, 0, 0);
    shown(3, 3, 0);
    shown(400, 400, 0);
  }

  static void promise25_allNights() {
    shown(0, 400, 3);
    shown(0, 6, 3);
    shown(6, 400, 0);
    Due.is("one never SHOWN", 0, someNights().shown(1, 0, 400));
  }

  static void promise25_nightsBeside0And400() {
    for (int night : new int[] {-1, 401, LEAST, MOST}) {
      Twins.refused("from " + night, -1, x -> x.shown(0, night, 400));
      Twins.refused("to " + night, -1, x -> x.shown(0, 0, night));
      Twins.refused("from and to " + night, -1, x -> x.shown(0, night, night));
    }
  }

  static void promise25_toBelowFrom() {
    Twins.refused("from 1 to 0", -1, x -> x.shown(0, 1, 0));
    Twins.refused("from 400 to 399", -1, x -> x.shown(0, 400, 399));
  }

  static void promise25_noneSuch() {
    for (int p : NO_PICTURE) Twins.refused("PICTURE " + p, -1, x -> x.shown(p, 0, 400));
  }

  static void promise25_alsoOfOnesThatAreAwayOrBack() {
    GalleryWalls x = someNights();
    x.send(0);
    Due.is("AWAY", 3, x.shown(0, 0, 400));
    x.tell(0, 3, 0);
    x.step(1);
    Due.is("BACK", 3, x.shown(0, 0, 400));
  }

  static void promise25_theFirstAndTheLastNight() {
    GalleryWalls x = house(1);
    x.hang(0, 0, 0);
    until(x, 400);
    Due.is("NIGHT 0", 1, x.shown(0, 0, 1));
    Due.is("NIGHT 399", 1, x.shown(0, 399, 400));
  }

  static void promise25_theFirstAndTheLastPicture() {
    GalleryWalls x = house(24);
    x.hang(0, 0, 0);
    x.hang(23, 0, 100);
    x.step(2);
    for (int p = 0; p < 24; p++) Due.is("PICTURE " + p, p == 0 || p == 23 ? 2 : 0, x.shown(p, 0, 2));
  }

  // ---- promise 26: owed

  static void promise26_ofNoNight() {
    Due.is("at first", 0, house(2).owed(1, 0));
    Due.is("later", 0, someNights().owed(1, 0));
  }

  static void promise26_ofTheLatestNights() {
    int[] want = {0, 1, 3, 4, 5, 7, 9};
    for (int n = 0; n <= 6; n++) Due.is(n + " NIGHTS", want[n], someNights().owed(1, n));
  }

  static void promise26_nightsFrom0ToNow() {
    for (int n : new int[] {-1, 3, 4, 400, LEAST, MOST}) Twins.refused(n + " of 2 NIGHTS", -1, x -> x.owed(2, n));
    Due.is("one NIGHT at first", -1, house(2).owed(1, 1));
  }

  static void promise26_giversFrom0To7() {
    GalleryWalls x = Due.rooms(1);
    for (int giver = 0; giver < 8; giver += 7) x.picture(20, 20, 1, 0, 0, 0, giver);
    x.step(3);
    int[] want = {3, 0, 0, 0, 0, 0, 0, 3};
    for (int giver = 0; giver < 8; giver++) Due.is("GIVER " + giver, want[giver], x.owed(giver, 3));
    for (int giver : new int[] {-1, 8, LEAST, MOST}) {
      Twins.refused("GIVER " + giver, -1, y -> y.owed(giver, 2));
      Twins.refused("GIVER " + giver + ", no NIGHT", -1, y -> y.owed(giver, 0));
    }
  }

  static void promise26_backOnesToo() {
    GalleryWalls x = house(1);
    x.tell(0, 3, 1);
    x.step(3);
    Due.is("BACK and never SHOWN", 3, x.owed(1, 3));
    Due.is("the latest", 1, x.owed(1, 1));
  }

  static void promise26_awayOnesToo() {
    GalleryWalls x = house(1);
    x.send(0);
    x.step(3);
    Due.is("AWAY", 3, x.owed(1, 3));
  }

  static void promise26_oneByOne() {
    GalleryWalls x = house(24);
    until(x, 400);
    Due.is("24 PICTURES on 400 NIGHTS", 24 * 400, x.owed(1, 400));
    Due.is("on one NIGHT", 24, x.owed(1, 1));
  }

  static void promise26_nightsAheadOfItsMaking() {
    GalleryWalls x = house(0);
    x.step(3);
    x.picture(20, 20, 1, 0, 0, 0, 1);
    Due.is("not SHOWN on them", 3, x.owed(1, 3));
    x.hang(0, 0, 0);
    x.step(1);
    Due.is("SHOWN on the latest", 0, x.owed(1, 1));
    Due.is("and not on those ahead", 3, x.owed(1, 4));
  }

  static void promise26_allShown() {
    GalleryWalls x = house(2);
    x.hang(0, 0, 0);
    x.hang(1, 1, 0);
    x.step(3);
    for (int n = 0; n <= 3; n++) Due.is(n + " NIGHTS", 0, x.owed(1, n));
  }
}
