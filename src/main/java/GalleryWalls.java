import java.util.ArrayList;
import java.util.Arrays;
import java.util.NoSuchElementException;

/** Walls of a gallery; the promises are told in the document DOC.md. */
public final class GalleryWalls {
    public static final int NONE = -1;

    private static final int CANNOT = -2;
    private static final int MISSING = -3;
    private static final int UNTOLD = -100;

    private static final int ROOMS = 10;
    private static final int DOORS = 20;
    private static final int WALLS = 16;
    private static final int PICTURES = 24;
    private static final int SCHOOLS = 8;
    private static final int GIVERS = 8;
    private static final int TERMS = 30;
    private static final int SIGNS = 60;
    private static final int TAPE = 100;
    private static final int TALE = 12;
    private static final int MOVES = 8;
    private static final int IN_ROW = 7;
    private static final int NIGHTS = 400;
    private static final int NIGHTS_AT_ONCE = 100;
    private static final int HOURS = 24;
    private static final int BRIGHTEST = 9999;
    private static final int MOST_LIMIT = 1000000;
    private static final int FAR = 99;

    private static final int EYE = 0;
    private static final int GAP = 1;
    private static final int FIRST = 2;
    private static final int LAST = 3;

    private static final int HERE = 0;
    private static final int AWAY = 2;
    private static final int BACK = 3;

    private static final String LETTERS = "rwplnsbkftya";
    private static final int LETTER = 10000;
    private static final int NEGATE = '~';
    private static final int COMPARES = 3;
    private static final int SUMS = 4;
    private static final int TIMES = 5;
    private static final int AHEAD = 6;

    private final House house = new House();
    private final Terms terms = new Terms(house);
    private final Rows rows = new Rows(house);
    private final Moves moves = new Moves(house);
    private final Numbers told = new Numbers(2 * WALLS);
    private final Numbers theTape = new Numbers(TAPE);
    private final Numbers theTale = new Numbers(TALE);
    private final Numbers theRoute = new Numbers(ROOMS);
    private final int[] metAt = new int[TALE];
    private final int[] chain = new int[TALE];
    private final int[] sums = new int[PICTURES];

    public GalleryWalls() {
    }

    // ---- the house

    public int room() {
        if (house.rooms >= ROOMS) {
            return NONE;
        }
        house.rooms++;
        house.measure(house.fromEntry, 0, null, NONE);
        return house.rooms - 1;
    }

    public int door(int a, int b, int width, int height) {
        boolean good = house.hasRoom(a) && house.hasRoom(b) && a != b
            && within(width, 50, 400) && within(height, 100, 600);
        if (!good || house.doors.size() >= DOORS) {
            return NONE;
        }
        house.doors.add(new Door(a, b, width, height));
        house.measure(house.fromEntry, 0, null, NONE);
        return house.doors.size() - 1;
    }

    public int wall(int room, int length, int height, int bears) {
        boolean good = house.hasRoom(room) && within(length, 50, 3000)
            && within(height, 100, 900) && within(bears, 1, 9999);
        if (!good || house.walls.size() >= WALLS) {
            return NONE;
        }
        Wall made = new Wall(house.walls.size(), room);
        made.length = length;
        made.height = height;
        made.bears = bears;
        house.walls.add(made);
        return made.number;
    }

    public int light(int wall, int kind, int n, int f, int step) {
        Wall lit = house.wallAt(wall);
        if (lit == null || !within(kind, 0, 3) || n > HOURS) {
            return NONE;
        }
        if (kind == 3) {
            Arrays.fill(lit.light, 0);
            return MISSING;
        }
        if (n < 0) {
            return CANNOT;
        }
        lit.readSheet(kind, n, f, step);
        return house.daylight(lit);
    }

    public boolean blind(int wall, int from, int to) {
        Wall dimmed = house.wallAt(wall);
        if (dimmed == null || !within(from, 0, HOURS - 1) || !within(to, 0, HOURS - 1)) {
            return false;
        }
        dimmed.blindFrom = from;
        dimmed.blindTo = to;
        return true;
    }

    public int set(int what, int v) {
        if (!within(what, EYE, LAST) || !mayBecome(what, v)) {
            return NONE;
        }
        int old = house.numbers[what];
        house.numbers[what] = v;
        return old;
    }

    public int picture(int width, int height, int weight, int school, int year, int value, int giver) {
        boolean good = within(width, 10, 800) && within(height, 10, 800) && within(weight, 1, 999)
            && within(school, 0, SCHOOLS - 1) && within(year, 0, 2999) && within(value, 0, 999)
            && within(giver, 0, GIVERS - 1);
        if (!good || house.pictures.size() >= PICTURES) {
            return NONE;
        }
        Picture made = new Picture(house.pictures.size());
        made.width = width;
        made.height = height;
        made.weight = weight;
        made.school = school;
        made.year = year;
        made.value = value;
        made.giver = giver;
        house.pictures.add(made);
        return made.number;
    }

    public int tell(int picture, int what, int v) {
        Picture of = house.pictureAt(picture);
        if (of == null) {
            return CANNOT;
        }
        boolean another = v == NONE || v != picture && house.pictureAt(v) != null;
        int old = CANNOT;
        if (what == 0 && another) {
            old = of.fellow;
            house.pair(of, house.pictureAt(v));
        } else if (what == 1 && another) {
            old = of.foe;
            of.foe = v;
        } else if (what == 2 && within(v, 0, MOST_LIMIT)) {
            old = of.limit;
            of.limit = v;
        } else if (what == 3 && within(v, 0, NIGHTS)) {
            old = of.till;
            of.till = v;
        }
        return old;
    }

    // ---- terms

    public int sign(int v) {
        if (theTape.size > TAPE - 4) {
            return NONE;
        }
        theTape.add(v >>> 24 & 255);
        theTape.add(v >>> 16 & 255);
        theTape.add(v >>> 8 & 255);
        theTape.add(v & 255);
        return theTape.size;
    }

    public boolean end(int n) {
        if (!within(n, 0, theTape.size)) {
            return false;
        }
        theTape.size = n;
        return true;
    }

    public int term(int picture, int night) {
        boolean good = house.pictureAt(picture) != null && within(night, 0, NIGHTS)
            && terms.list.size() < TERMS;
        int answer = good ? terms.take(theTape, picture, night) : UNTOLD;
        theTape.clear();
        return answer;
    }

    public int force(int picture) {
        return house.pictureAt(picture) == null ? NONE : terms.inForce(picture);
    }

    public int why(int picture, int wall, int x) {
        Picture p = house.pictureAt(picture);
        Wall w = house.wallAt(wall);
        return p == null || w == null ? NONE : terms.firstBroken(house.hung, p, w, x);
    }

    // ---- hanging

    public int fits(int picture, int wall, int x) {
        Picture p = house.present(picture);
        Wall w = house.wallAt(wall);
        return p == null || w == null ? NONE : terms.unfit(house.hung, p, w, x);
    }

    public int hang(int picture, int wall, int x) {
        Picture p = house.present(picture);
        Wall w = house.wallAt(wall);
        if (p == null || w == null) {
            return NONE;
        }
        int unfit = terms.unfit(house.hung, p, w, x);
        if (unfit == 0) {
            house.hung.put(p.number, w.number, x);
        }
        return unfit;
    }

    public boolean store(int picture) {
        Picture p = house.pictureAt(picture);
        if (p == null || p.gone == BACK || p.gone == HERE && !house.hung.has(p.number)) {
            return false;
        }
        p.gone = HERE;
        house.hung.take(p.number);
        return true;
    }

    public boolean send(int picture) {
        Picture p = house.present(picture);
        if (p == null) {
            return false;
        }
        p.gone = AWAY;
        house.hung.take(p.number);
        return true;
    }

    public int at(int picture, int what) throws NoSuchElementException {
        Picture p = house.pictureAt(picture);
        if (p == null || !within(what, 0, 7)) {
            throw new NoSuchElementException();
        }
        if (what == 0) {
            return house.stateOf(p);
        }
        if (what == 3) {
            return p.had;
        }
        return what == 7 ? p.fellow : placeOf(p, what);
    }

    public int on(int wall) {
        if (house.wallAt(wall) == null) {
            return NONE;
        }
        told.clear();
        int x = NONE;
        int next = house.hung.rightOf(NONE, wall, x);
        for (int i = 0; i < PICTURES && next != NONE; i++) {
            told.add(next);
            x = house.hung.leftSide(next);
            next = house.hung.rightOf(NONE, wall, x);
        }
        return told.size;
    }

    public int places(int picture) {
        Picture p = house.present(picture);
        if (p == null) {
            return NONE;
        }
        told.clear();
        for (int i = 0; i < house.walls.size(); i++) {
            int x = leastPlace(p, house.walls.get(i));
            if (x != NONE) {
                told.add(i);
                told.add(x);
            }
        }
        return told.size / 2;
    }

    public int of(int wall, int what) {
        Wall w = house.wallAt(wall);
        if (w == null) {
            return NONE;
        }
        switch (what) {
            case 0:
                return house.daylight(w);
            case 1:
                return house.peak(w);
            case 2:
                return house.weightOn(w);
            case 3:
                return w.length - house.widthOn(w);
            default:
                return NONE;
        }
    }

    // ---- light and nights

    public int step(int n) {
        if (!within(n, 0, NIGHTS_AT_ONCE) || n > NIGHTS - house.now) {
            return NONE;
        }
        for (int i = 0; i < n; i++) {
            house.pass();
        }
        return house.now;
    }

    public int fades(int picture) {
        Picture p = house.pictureAt(picture);
        Wall w = p == null ? null : house.wallOf(p);
        if (p == null || w == null) {
            return NONE;
        }
        if (p.had > p.limit) {
            return house.now;
        }
        int daylight = house.daylight(w);
        if (daylight <= 0) {
            return NONE;
        }
        int night = house.now + (p.limit - p.had) / daylight;
        return night < NIGHTS ? night : NONE;
    }

    public int shown(int picture, int from, int to) {
        boolean good = house.pictureAt(picture) != null
            && within(from, 0, NIGHTS) && within(to, from, NIGHTS);
        return good ? house.nightsShown(1 << picture, from, to) : NONE;
    }

    public int owed(int giver, int n) {
        if (!within(giver, 0, GIVERS - 1) || !within(n, 0, house.now)) {
            return NONE;
        }
        int given = house.givenBy(giver);
        return n * Integer.bitCount(given) - house.nightsShown(given, house.now - n, house.now);
    }

    // ---- rows, tale

    public int like(int a, int b, int v) throws NoSuchElementException {
        if (!within(a, 0, SCHOOLS - 1) || !within(b, 0, SCHOOLS - 1) || !within(v, -99, 99)) {
            throw new NoSuchElementException();
        }
        int old = house.likings[a * SCHOOLS + b];
        house.likings[a * SCHOOLS + b] = v;
        house.likings[b * SCHOOLS + a] = v;
        return old;
    }

    public int best(int wall, int bits) throws NoSuchElementException {
        Wall w = house.wallAt(wall);
        if (w == null || !rows.choose(bits) || !rows.goOn(w)) {
            throw new NoSuchElementException();
        }
        int worth = rows.find(w);
        told.become(rows.found);
        return worth;
    }

    public int lay() {
        int n = rows.found.size;
        if (n == 0 || !rows.arePresent(rows.found)) {
            return NONE;
        }
        rows.putUp();
        return n;
    }

    public int tale(int picture) {
        if (house.pictureAt(picture) == null || theTale.find(picture) != NONE || theTale.size >= TALE) {
            return NONE;
        }
        theTale.add(picture);
        return theTale.size;
    }

    public int route(int room) {
        if (!house.hasRoom(room) || theRoute.find(room) != NONE || theRoute.size >= ROOMS) {
            return NONE;
        }
        theRoute.add(room);
        return theRoute.size;
    }

    public int breaks() {
        int met = 0;
        for (int i = 0; i < theTale.size; i++) {
            metAt[i] = meeting(house.pictureAt(theTale.get(i)));
            met += metAt[i] == NONE ? 0 : 1;
        }
        int longest = 0;
        for (int i = theTale.size - 1; i >= 0; i--) {
            chain[i] = metAt[i] == NONE ? 0 : 1 + longestAfter(i);
            longest = Math.max(longest, chain[i]);
        }
        tellChain(longest);
        return met - longest;
    }

    // ---- ways

    public boolean shut(int room, boolean is) {
        if (!house.hasRoom(room)) {
            return false;
        }
        house.shutRooms = is ? house.shutRooms | 1 << room : house.shutRooms & ~(1 << room);
        return true;
    }

    public int way(int picture, int from, int to) {
        Picture p = house.pictureAt(picture);
        if (p == null || !house.hasRoom(from) || !house.hasRoom(to)) {
            return NONE;
        }
        int doors = house.doorsBetween(p, from, to, NONE);
        if (doors == FAR) {
            return CANNOT;
        }
        told.clear();
        told.add(from);
        int room = from;
        for (int left = doors - 1; left >= 0; left--) {
            room = house.nextRoom(p, room, left);
            told.add(room);
        }
        return doors;
    }

    public int bars(int picture, int from, int to) {
        Picture p = house.pictureAt(picture);
        if (p == null || !house.hasRoom(from) || !house.hasRoom(to)) {
            return NONE;
        }
        if (house.doorsBetween(p, from, to, NONE) != FAR) {
            return CANNOT;
        }
        for (int d = 0; d < house.doors.size(); d++) {
            if (house.doorsBetween(p, from, to, d) != FAR) {
                return d;
            }
        }
        return NONE;
    }

    // ---- moves

    public int move(int picture, int wall, int x) {
        boolean good = house.present(picture) != null && house.wallAt(wall) != null
            && within(x, -1000, 4000) && moves.pictures.find(picture) == NONE;
        if (!good || moves.pictures.size >= MOVES) {
            return NONE;
        }
        moves.pictures.add(picture);
        moves.walls.add(wall);
        moves.lefts.add(x);
        return moves.pictures.size - 1;
    }

    public int nights(int g, int r) {
        if (!within(g, 1, MOVES) || !within(r, 1, MOVES)) {
            return NONE;
        }
        int fewest = moves.plan(g, r);
        if (fewest == FAR) {
            return CANNOT;
        }
        told.clear();
        moves.tellPlan(g, r, told);
        return fewest;
    }

    public int done() {
        if (!moves.allCanStand()) {
            return CANNOT;
        }
        int n = moves.pictures.size;
        house.hung.become(house.trial);
        moves.forget();
        return n;
    }

    // ---- gaps, guards

    public int stand(int picture) {
        Picture p = house.pictureAt(picture);
        Wall w = p == null ? null : house.wallOf(p);
        if (p == null || w == null) {
            return NONE;
        }
        int x = house.hung.leftSide(p.number);
        house.trial.become(house.hung);
        house.trial.take(p.number);
        told.clear();
        for (int i = 0; i < house.pictures.size(); i++) {
            Picture q = house.pictures.get(i);
            if (house.stateOf(q) == 0 && terms.unfit(house.trial, q, w, x) == 0) {
                insert(i, house.likedAt(house.trial, q, w, x));
            }
        }
        return told.size;
    }

    public boolean sight(int room, int wall) {
        Wall w = house.wallAt(wall);
        if (w == null || !house.hasRoom(room) || w.room == room) {
            return false;
        }
        w.seenFrom |= 1 << room;
        return true;
    }

    public int guard(int v) {
        if (!within(v, 0, 999)) {
            return NONE;
        }
        int precious = house.wallsWith(v);
        int best = (1 << house.rooms) - 1;
        for (int guards = best - 1; guards >= 0; guards--) {
            boolean noMore = Integer.bitCount(guards) <= Integer.bitCount(best);
            if (noMore && house.areSeen(precious, guards)) {
                best = guards;
            }
        }
        told.clear();
        told.add(best);
        return Integer.bitCount(best);
    }

    public int count(int what) {
        switch (what) {
            case 0:
                return house.rooms;
            case 1:
                return house.doors.size();
            case 2:
                return house.walls.size();
            case 3:
                return house.pictures.size();
            case 4:
                return terms.list.size();
            case 5:
                return house.now;
            case 6:
                return house.hung.howMany();
            case 7:
                return theTale.size;
            case 8:
                return theRoute.size;
            case 9:
                return moves.pictures.size;
            case 10:
                return told.size;
            case 11:
                return theTape.size;
            case 12:
                return house.numbers[FIRST];
            case 13:
                return house.numbers[LAST];
            case 14:
                return house.numbers[EYE];
            case 15:
                return house.numbers[GAP];
            default:
                return NONE;
        }
    }

    public int row(int i) throws NoSuchElementException {
        if (!within(i, 0, told.size - 1)) {
            throw new NoSuchElementException();
        }
        return told.get(i);
    }

    private static boolean within(int v, int least, int most) {
        return v >= least && v <= most;
    }

    private boolean mayBecome(int what, int v) {
        switch (what) {
            case EYE:
                return within(v, 100, 200);
            case GAP:
                return within(v, 0, 99);
            case FIRST:
                return within(v, 0, house.numbers[LAST]);
            default:
                return within(v, house.numbers[FIRST], HOURS - 1);
        }
    }

    private int placeOf(Picture p, int what) {
        Wall w = house.wallOf(p);
        if (w == null) {
            return NONE;
        }
        int x = house.hung.leftSide(p.number);
        switch (what) {
            case 1:
                return w.number;
            case 2:
                return x;
            case 4:
                return house.hung.leftOf(p.number, w.number, x);
            case 5:
                return house.hung.rightOf(p.number, w.number, x);
            default:
                return w.room;
        }
    }

    /*
     * Where a picture is GAP away from all others its neighbours, and with them what its term
     * answers, change only behind another picture: so the least place is 0 or just behind one.
     */
    private int leastPlace(Picture p, Wall w) {
        int least = terms.unfit(house.hung, p, w, 0) == 0 ? 0 : NONE;
        for (int i = 0; i < house.pictures.size() && least != 0; i++) {
            if (i == p.number || house.hung.wallUnder(i) != w.number) {
                continue;
            }
            int x = house.hung.leftSide(i) + house.pictures.get(i).width + house.numbers[GAP];
            if ((least == NONE || x < least) && terms.unfit(house.hung, p, w, x) == 0) {
                least = x;
            }
        }
        return least;
    }

    /** A number that is the greater the later a picture is met on the route; NONE if it is not. */
    private int meeting(Picture p) {
        Wall w = p == null ? null : house.wallOf(p);
        int leg = p == null || w == null ? NONE : theRoute.find(w.room);
        return leg == NONE ? NONE : (leg * WALLS + w.number) * 4096 + house.hung.leftSide(p.number);
    }

    private int longestAfter(int place) {
        int longest = 0;
        for (int i = place + 1; i < theTale.size; i++) {
            if (metAt[i] > metAt[place]) {
                longest = Math.max(longest, chain[i]);
            }
        }
        return longest;
    }

    private void tellChain(int longest) {
        told.clear();
        int left = longest;
        int before = NONE;
        for (int i = 0; i < theTale.size; i++) {
            if (left > 0 && chain[i] == left && metAt[i] > before) {
                told.add(theTale.get(i));
                before = metAt[i];
                left--;
            }
        }
    }

    /** Puts a picture into the row behind those with as great a sum. */
    private void insert(int picture, int sum) {
        int place = told.size;
        told.add(picture);
        for (int i = told.size - 1; i > 0 && sums[i - 1] < sum; i--) {
            told.held[i] = told.held[i - 1];
            sums[i] = sums[i - 1];
            place = i - 1;
        }
        told.held[place] = picture;
        sums[place] = sum;
    }

    /** A row of numbers up to a bound; what is beyond the bound is left out. */
    private static final class Numbers {
        final int[] held;
        int size;

        Numbers(int most) {
            held = new int[most];
        }

        void add(int v) {
            if (size < held.length) {
                held[size] = v;
                size++;
            }
        }

        int take() {
            if (size <= 0) {
                return 0;
            }
            size--;
            return held[size];
        }

        int get(int i) {
            return i >= 0 && i < size ? held[i] : NONE;
        }

        int find(int v) {
            for (int i = 0; i < size; i++) {
                if (held[i] == v) {
                    return i;
                }
            }
            return NONE;
        }

        void clear() {
            size = 0;
        }

        void become(Numbers other) {
            clear();
            for (int i = 0; i < other.size; i++) {
                add(other.held[i]);
            }
        }
    }

    private static final class Picture {
        final int number;
        int width;
        int height;
        int weight;
        int school;
        int year;
        int value;
        int giver;
        int fellow = NONE;
        int foe = NONE;
        int limit = MOST_LIMIT;
        int till = NIGHTS;
        int gone = HERE;
        int had;

        Picture(int number) {
            this.number = number;
        }
    }

    private static final class Door {
        final int a;
        final int b;
        final int width;
        final int height;

        Door(int a, int b, int width, int height) {
            this.a = a;
            this.b = b;
            this.width = width;
            this.height = height;
        }

        boolean lets(Picture p) {
            return p.width <= width && p.height <= height || p.width <= height && p.height <= width;
        }
    }

    private static final class Wall {
        final int number;
        final int room;
        int length;
        int height;
        int bears;
        final int[] light = new int[HOURS];
        int blindFrom = 1;
        int blindTo = 0;
        int seenFrom;

        Wall(int number, int room) {
            this.number = number;
            this.room = room;
            this.seenFrom = 1 << room;
        }

        void readSheet(int kind, int n, int f, int step) {
            int entry = f;
            for (int hour = 0; hour < HOURS; hour++) {
                light[hour] = hour < n ? brightness(kind, entry) : 0;
                entry += step;
            }
        }

        private static int brightness(int kind, int entry) {
            int v = kind == 0 ? (byte) entry : kind == 1 ? (short) entry : entry;
            return Math.max(0, Math.min(BRIGHTEST, v));
        }

        int lightIn(int hour) {
            boolean dark = hour < 0 || hour >= HOURS || hour >= blindFrom && hour <= blindTo;
            return dark ? 0 : light[hour];
        }
    }

    /** Which picture is on which wall, and where: as it is, or as it would be. */
    private static final class Hanging {
        final int[] walls = new int[PICTURES];
        final int[] lefts = new int[PICTURES];

        Hanging() {
            Arrays.fill(walls, NONE);
            Arrays.fill(lefts, NONE);
        }

        void put(int picture, int wall, int x) {
            if (picture >= 0 && picture < PICTURES) {
                walls[picture] = wall;
                lefts[picture] = x;
            }
        }

        void take(int picture) {
            put(picture, NONE, NONE);
        }

        void become(Hanging other) {
            System.arraycopy(other.walls, 0, walls, 0, PICTURES);
            System.arraycopy(other.lefts, 0, lefts, 0, PICTURES);
        }

        boolean has(int picture) {
            return wallUnder(picture) != NONE;
        }

        int wallUnder(int picture) {
            return picture >= 0 && picture < PICTURES ? walls[picture] : NONE;
        }

        int leftSide(int picture) {
            return picture >= 0 && picture < PICTURES ? lefts[picture] : NONE;
        }

        int howMany() {
            int n = 0;
            for (int i = 0; i < PICTURES; i++) {
                n += walls[i] == NONE ? 0 : 1;
            }
            return n;
        }

        int leftOf(int picture, int wall, int x) {
            int found = NONE;
            for (int i = 0; i < PICTURES; i++) {
                boolean there = i != picture && walls[i] == wall && lefts[i] <= x;
                if (there && (found == NONE || lefts[i] >= lefts[found])) {
                    found = i;
                }
            }
            return found;
        }

        int rightOf(int picture, int wall, int x) {
            int found = NONE;
            for (int i = 0; i < PICTURES; i++) {
                boolean there = i != picture && walls[i] == wall && lefts[i] > x;
                if (there && (found == NONE || lefts[i] < lefts[found])) {
                    found = i;
                }
            }
            return found;
        }
    }

    /** What there is, and what of it asks no term. */
    private static final class House {
        final ArrayList<Door> doors = new ArrayList<>();
        final ArrayList<Wall> walls = new ArrayList<>();
        final ArrayList<Picture> pictures = new ArrayList<>();
        final int[] numbers = {150, 20, 10, 17};
        final int[] likings = new int[SCHOOLS * SCHOOLS];
        final int[] fromEntry = new int[ROOMS];
        final int[] steps = new int[ROOMS];
        final int[] shownOn = new int[NIGHTS];
        final Hanging hung = new Hanging();
        final Hanging trial = new Hanging();
        int rooms;
        int shutRooms;
        int now;

        boolean hasRoom(int room) {
            return room >= 0 && room < rooms;
        }

        Wall wallAt(int number) {
            return number >= 0 && number < walls.size() ? walls.get(number) : null;
        }

        Picture pictureAt(int number) {
            return number >= 0 && number < pictures.size() ? pictures.get(number) : null;
        }

        /** The picture of a number, if it is neither AWAY nor BACK; else null. */
        Picture present(int number) {
            Picture p = pictureAt(number);
            return p != null && p.gone == HERE ? p : null;
        }

        /** The wall on which a picture is HUNG, or null. */
        Wall wallOf(Picture p) {
            return wallAt(hung.wallUnder(p.number));
        }

        int stateOf(Picture p) {
            return p.gone != HERE ? p.gone : hung.has(p.number) ? 1 : 0;
        }

        void pair(Picture a, Picture b) {
            part(a);
            if (b != null) {
                part(b);
                a.fellow = b.number;
                b.fellow = a.number;
            }
        }

        private void part(Picture p) {
            Picture old = pictureAt(p.fellow);
            if (old != null) {
                old.fellow = NONE;
            }
            p.fellow = NONE;
        }

        int daylight(Wall w) {
            int sum = 0;
            for (int hour = numbers[FIRST]; hour <= numbers[LAST]; hour++) {
                sum += w.lightIn(hour);
            }
            return sum;
        }

        int peak(Wall w) {
            int peak = 0;
            for (int hour = numbers[FIRST]; hour <= numbers[LAST]; hour++) {
                peak = Math.max(peak, w.lightIn(hour));
            }
            return peak;
        }

        int weightOn(Wall w) {
            int sum = 0;
            for (int i = 0; i < pictures.size(); i++) {
                sum += hung.wallUnder(i) == w.number ? pictures.get(i).weight : 0;
            }
            return sum;
        }

        int widthOn(Wall w) {
            int sum = 0;
            for (int i = 0; i < pictures.size(); i++) {
                sum += hung.wallUnder(i) == w.number ? pictures.get(i).width : 0;
            }
            return sum;
        }

        boolean tooHigh(Picture p, Wall w) {
            int eye = numbers[EYE];
            return p.height > 2 * eye || p.height > 2 * (w.height - eye);
        }

        /** The first of 1 to 4 of FITS that is not so, or 0. */
        int hindrance(Hanging as, Picture p, Wall w, int x) {
            if (x < 0 || x > w.length - p.width) {
                return 1;
            }
            if (tooHigh(p, w)) {
                return 2;
            }
            int gap = numbers[GAP];
            int weight = p.weight;
            for (int i = 0; i < pictures.size(); i++) {
                if (i == p.number || as.wallUnder(i) != w.number) {
                    continue;
                }
                Picture other = pictures.get(i);
                int left = as.leftSide(i);
                if (x < left + other.width + gap && left < x + p.width + gap) {
                    return 3;
                }
                weight += other.weight;
            }
            return weight > w.bears ? 4 : 0;
        }

        boolean isIn(Hanging as, int picture, int room) {
            Wall w = wallAt(as.wallUnder(picture));
            return w != null && w.room == room;
        }

        boolean meetsFoe(Hanging as, Picture p, int room) {
            for (int i = 0; i < pictures.size(); i++) {
                boolean foe = p.foe == i || pictures.get(i).foe == p.number;
                if (foe && isIn(as, i, room)) {
                    return true;
                }
            }
            return false;
        }

        int othersIn(Hanging as, Picture p, int room) {
            int n = 0;
            for (int i = 0; i < pictures.size(); i++) {
                Wall w = wallAt(as.wallUnder(i));
                n += i != p.number && w != null && w.room == room ? 1 : 0;
            }
            return n;
        }

        int likingOf(Picture a, Picture b) {
            return likings[a.school * SCHOOLS + b.school];
        }

        int likedAt(Hanging as, Picture p, Wall w, int x) {
            Picture left = pictureAt(as.leftOf(p.number, w.number, x));
            Picture right = pictureAt(as.rightOf(p.number, w.number, x));
            return (left == null ? 0 : likingOf(p, left)) + (right == null ? 0 : likingOf(p, right));
        }

        void pass() {
            if (now >= NIGHTS) {
                return;
            }
            for (int i = 0; i < pictures.size(); i++) {
                Picture p = pictures.get(i);
                Wall w = wallOf(p);
                if (w != null) {
                    p.had += daylight(w);
                    shownOn[now] |= 1 << i;
                }
            }
            now++;
            for (int i = 0; i < pictures.size(); i++) {
                Picture p = pictures.get(i);
                if (p.till <= now) {
                    p.gone = BACK;
                    hung.take(i);
                }
            }
        }

        /** On how many nights pictures, as bits, were shown, one by one. */
        int nightsShown(int bits, int from, int to) {
            int n = 0;
            for (int night = Math.max(0, from); night < to && night < NIGHTS; night++) {
                n += Integer.bitCount(shownOn[night] & bits);
            }
            return n;
        }

        int givenBy(int giver) {
            int bits = 0;
            for (int i = 0; i < pictures.size(); i++) {
                bits |= pictures.get(i).giver == giver ? 1 << i : 0;
            }
            return bits;
        }

        boolean isShut(int room) {
            return (shutRooms >> room & 1) != 0;
        }

        /** If a picture goes through a door, were door `also` wide enough; no picture: through each. */
        boolean goesThrough(Picture p, int door, int also) {
            Door d = doors.get(door);
            return p == null || !isShut(d.a) && !isShut(d.b) && (door == also || d.lets(p));
        }

        /** The fewest doors from each room to a goal, FAR where there is no way. */
        void measure(int[] fewest, int goal, Picture p, int also) {
            for (int room = 0; room < fewest.length; room++) {
                fewest[room] = room == goal ? 0 : FAR;
            }
            for (int round = 1; round < rooms; round++) {
                for (int i = 0; i < doors.size(); i++) {
                    if (goesThrough(p, i, also)) {
                        Door d = doors.get(i);
                        fewest[d.a] = Math.min(fewest[d.a], fewest[d.b] + 1);
                        fewest[d.b] = Math.min(fewest[d.b], fewest[d.a] + 1);
                    }
                }
            }
        }

        int doorsBetween(Picture p, int from, int to, int also) {
            if (!hasRoom(from) || isShut(from) || isShut(to)) {
                return FAR;
            }
            measure(steps, to, p, also);
            return steps[from];
        }

        /** The first room behind a door of this one from which so many doors are left. */
        int nextRoom(Picture p, int room, int left) {
            int next = NONE;
            for (int i = 0; i < doors.size(); i++) {
                Door d = doors.get(i);
                int other = d.a == room ? d.b : d.b == room ? d.a : NONE;
                boolean good = other != NONE && steps[other] == left && goesThrough(p, i, NONE);
                if (good && (next == NONE || other < next)) {
                    next = other;
                }
            }
            return next;
        }

        /** The walls, as bits, that have a picture of this value or more. */
        int wallsWith(int value) {
            int bits = 0;
            for (int i = 0; i < pictures.size(); i++) {
                Wall w = wallOf(pictures.get(i));
                if (w != null && pictures.get(i).value >= value) {
                    bits |= 1 << w.number;
                }
            }
            return bits;
        }

        boolean areSeen(int wallBits, int roomBits) {
            for (int i = 0; i < walls.size(); i++) {
                if ((wallBits >> i & 1) != 0 && (walls.get(i).seenFrom & roomBits) == 0) {
                    return false;
                }
            }
            return true;
        }
    }

    private static final class Term {
        final int picture;
        final int night;
        final int[] code;

        Term(int picture, int night, int[] code) {
            this.picture = picture;
            this.night = night;
            this.code = code;
        }
    }

    /**
     * Reads a term sign by sign and writes it with each operator behind its things. It keeps the
     * operators that wait in a row of its own, so that no depth of brackets needs recursion.
     */
    private static final class TermReader {
        final Numbers code = new Numbers(SIGNS + 1);
        final Numbers waiting = new Numbers(SIGNS);
        boolean wantsThing;
        int digits;
        int open;

        /** The place of the first sign that can't stand there, or NONE. */
        int firstWrong(Numbers tape) {
            code.clear();
            waiting.clear();
            wantsThing = true;
            digits = 0;
            open = 0;
            for (int i = 0; i < tape.size; i++) {
                if (i >= SIGNS || !takes(tape.get(i))) {
                    return i;
                }
            }
            if (wantsThing || open > 0) {
                return tape.size;
            }
            endExpression();
            return NONE;
        }

        private boolean takes(int c) {
            if (wantsThing) {
                return beginsThing(c);
            }
            if (isDigit(c)) {
                return takesDigit(c);
            }
            digits = 0;
            if (c == ')') {
                return closes();
            }
            if (c == ';') {
                wantsThing = open == 0;
                endExpression();
                return open == 0;
            }
            return takesOperator(c);
        }

        private boolean beginsThing(int c) {
            int letter = LETTERS.indexOf((char) c);
            if (c == '(') {
                open++;
                waiting.add(c);
            } else if (c == '!' || c == '-') {
                waiting.add(c == '-' ? NEGATE : c);
            } else if (isDigit(c)) {
                digits = 1;
                code.add(c - '0');
                wantsThing = false;
            } else if (letter >= 0) {
                code.add(LETTER + letter);
                wantsThing = false;
            } else {
                return false;
            }
            return true;
        }

        private boolean takesDigit(int c) {
            if (digits < 1 || digits > 3) {
                return false;
            }
            code.add(code.take() * 10 + c - '0');
            digits++;
            return true;
        }

        private boolean closes() {
            if (open <= 0) {
                return false;
            }
            unload(1);
            waiting.take();
            open--;
            return true;
        }

        private boolean takesOperator(int c) {
            int level = levelOf(c);
            if (level < 1 || level > TIMES) {
                return false;
            }
            unload(level + 1);
            if (level == COMPARES && levelOf(waiting.get(waiting.size - 1)) == COMPARES) {
                return false;
            }
            unload(level);
            waiting.add(c);
            wantsThing = true;
            return true;
        }

        private void endExpression() {
            unload(1);
            code.add(-';');
        }

        /** Writes the waiting operators that bind at least so much; a bracket binds nothing. */
        private void unload(int level) {
            for (int i = waiting.size - 1; i >= 0 && levelOf(waiting.get(i)) >= level; i--) {
                code.add(-waiting.take());
            }
        }

        private static boolean isDigit(int c) {
            return c >= '0' && c <= '9';
        }

        private static int levelOf(int c) {
            switch (c) {
                case '|':
                    return 1;
                case '&':
                    return 2;
                case '<':
                case '>':
                case '=':
                    return COMPARES;
                case '+':
                case '-':
                    return SUMS;
                case '*':
                case '/':
                case '%':
                    return TIMES;
                case '!':
                case NEGATE:
                    return AHEAD;
                default:
                    return 0;
            }
        }
    }

    /** The terms, and what they ask of a picture at a place. */
    private static final class Terms {
        final House house;
        final ArrayList<Term> list = new ArrayList<>();
        final TermReader reader = new TermReader();
        final int[] letters = new int[LETTERS.length()];
        final Numbers things = new Numbers(SIGNS);

        Terms(House house) {
            this.house = house;
        }

        int take(Numbers tape, int picture, int night) {
            int wrong = reader.firstWrong(tape);
            if (wrong != NONE) {
                return -1 - wrong;
            }
            int[] code = Arrays.copyOf(reader.code.held, reader.code.size);
            list.add(new Term(picture, night, code));
            return list.size() - 1;
        }

        int inForce(int picture) {
            int found = NONE;
            int since = NONE;
            for (int i = 0; i < list.size(); i++) {
                Term t = list.get(i);
                if (t.picture == picture && t.night <= house.now && t.night >= since) {
                    found = i;
                    since = t.night;
                }
            }
            return found;
        }

        /** FITS: 0, or the first number that is not so. */
        int unfit(Hanging as, Picture p, Wall w, int x) {
            int hindrance = house.hindrance(as, p, w, x);
            if (hindrance != 0) {
                return hindrance;
            }
            if (house.meetsFoe(as, p, w.room)) {
                return 5;
            }
            return firstBroken(as, p, w, x) == CANNOT ? 0 : 6;
        }

        /** The first expression that does not hold; CANNOT if there is none. */
        int firstBroken(Hanging as, Picture p, Wall w, int x) {
            int number = inForce(p.number);
            if (number < 0 || number >= list.size()) {
                return CANNOT;
            }
            readLetters(as, p, w, x);
            int[] code = list.get(number).code;
            int expression = 0;
            things.clear();
            for (int i = 0; i < code.length; i++) {
                if (code[i] != -';') {
                    work(code[i]);
                } else if (things.take() == 0) {
                    return expression;
                } else {
                    expression++;
                }
            }
            return CANNOT;
        }

        private void readLetters(Hanging as, Picture p, Wall w, int x) {
            Picture left = house.pictureAt(as.leftOf(p.number, w.number, x));
            Picture right = house.pictureAt(as.rightOf(p.number, w.number, x));
            letters[0] = w.room;
            letters[1] = w.number;
            letters[2] = house.peak(w);
            letters[3] = house.daylight(w);
            letters[4] = (left == null ? 0 : 1) + (right == null ? 0 : 1);
            letters[5] = (left != null && left.school == p.school ? 1 : 0)
                + (right != null && right.school == p.school ? 1 : 0);
            letters[6] = left != null && left.number == p.fellow
                || right != null && right.number == p.fellow ? 1 : 0;
            letters[7] = house.othersIn(as, p, w.room);
            letters[8] = p.limit - p.had;
            letters[9] = house.now;
            letters[10] = p.year;
            letters[11] = house.fromEntry[w.room];
        }

        private void work(int code) {
            if (code >= LETTER) {
                things.add(code - LETTER < letters.length ? letters[code - LETTER] : 0);
            } else if (code >= 0) {
                things.add(code);
            } else if (code == -'!') {
                things.add(things.take() == 0 ? 1 : 0);
            } else if (code == -NEGATE) {
                things.add(-things.take());
            } else {
                int second = things.take();
                things.add(joined(-code, things.take(), second));
            }
        }

        private static int joined(int operator, int a, int b) {
            switch (operator) {
                case '|':
                    return a != 0 || b != 0 ? 1 : 0;
                case '&':
                    return a != 0 && b != 0 ? 1 : 0;
                case '<':
                    return a < b ? 1 : 0;
                case '>':
                    return a > b ? 1 : 0;
                case '=':
                    return a == b ? 1 : 0;
                case '+':
                    return a + b;
                case '-':
                    return a - b;
                case '*':
                    return a * b;
                case '/':
                    return b == 0 ? 0 : a / b;
                default:
                    return b == 0 ? 0 : a % b;
            }
        }
    }

    /** The best row for a wall, and the one that was found last; sets of chosen ones are bits. */
    private static final class Rows {
        final House house;
        final Numbers chosen = new Numbers(IN_ROW);
        final int[] fellows = new int[IN_ROW];
        final int[] liked = new int[IN_ROW * IN_ROW];
        final int[] worths = new int[(1 << IN_ROW) * IN_ROW];
        final Numbers found = new Numbers(IN_ROW);
        final Numbers lefts = new Numbers(IN_ROW);
        int wall = NONE;

        Rows(House house) {
            this.house = house;
        }

        boolean choose(int bits) {
            if (bits == 0 || Integer.bitCount(bits) > IN_ROW) {
                return false;
            }
            chosen.clear();
            for (int i = 0; i < 32; i++) {
                if ((bits >>> i & 1) != 0) {
                    chosen.add(i);
                }
            }
            return arePresent(chosen);
        }

        boolean arePresent(Numbers pictures) {
            for (int i = 0; i < pictures.size; i++) {
                if (house.present(pictures.get(i)) == null) {
                    return false;
                }
            }
            return true;
        }

        private Picture chosenAt(int i) {
            return house.pictureAt(chosen.get(i));
        }

        private int lengthOfAll() {
            int sum = (chosen.size - 1) * house.numbers[GAP];
            for (int i = 0; i < chosen.size; i++) {
                Picture p = chosenAt(i);
                sum += p == null ? 0 : p.width;
            }
            return sum;
        }

        /** If they can hang there in some order; fellows can always be put beside each other. */
        boolean goOn(Wall w) {
            int weight = 0;
            for (int i = 0; i < chosen.size; i++) {
                Picture p = chosenAt(i);
                if (p == null || house.tooHigh(p, w) || chosen.find(p.foe) != NONE) {
                    return false;
                }
                weight += p.weight;
            }
            return weight <= w.bears && lengthOfAll() <= w.length;
        }

        /** Finds the best row and where it is laid: its worth. */
        int find(Wall w) {
            compare();
            weigh();
            wall = w.number;
            found.clear();
            lefts.clear();
            int x = (w.length - lengthOfAll()) / 2;
            int used = 0;
            int last = NONE;
            int worth = 0;
            for (int i = 0; i < chosen.size; i++) {
                int next = bestNext(used, last);
                worth += likingBehind(last, next);
                Picture p = chosenAt(next);
                found.add(chosen.get(next));
                lefts.add(x);
                x += (p == null ? 0 : p.width) + house.numbers[GAP];
                used |= 1 << next;
                last = next;
            }
            return worth;
        }

        private void compare() {
            for (int i = 0; i < chosen.size; i++) {
                Picture a = chosenAt(i);
                fellows[i] = a == null ? NONE : chosen.find(a.fellow);
                for (int k = 0; k < chosen.size; k++) {
                    Picture b = chosenAt(k);
                    liked[i * IN_ROW + k] = a == null || b == null ? 0 : house.likingOf(a, b);
                }
            }
        }

        /** Tells for each set and its last one what all others are worth at best behind it. */
        private void weigh() {
            int all = (1 << chosen.size) - 1;
            for (int used = all; used > 0; used--) {
                for (int last = 0; last < chosen.size; last++) {
                    int next = (used >> last & 1) == 0 ? NONE : bestNext(used, last);
                    worths[used * IN_ROW + last] = next == NONE ? 0 : worthWith(used, last, next);
                }
            }
        }

        private int bestNext(int used, int last) {
            int best = NONE;
            int most = 0;
            for (int next = 0; next < chosen.size; next++) {
                if (mayFollow(used, last, next)) {
                    int worth = worthWith(used, last, next);
                    if (best == NONE || worth > most) {
                        best = next;
                        most = worth;
                    }
                }
            }
            return best;
        }

        /** Behind one whose fellow is still to come only that one may come. */
        private boolean mayFollow(int used, int last, int next) {
            int fellow = last == NONE ? NONE : fellows[last];
            boolean isFree = fellow == NONE || (used >> fellow & 1) != 0;
            return (used >> next & 1) == 0 && (isFree || fellow == next);
        }

        private int worthWith(int used, int last, int next) {
            return likingBehind(last, next) + worths[(used | 1 << next) * IN_ROW + next];
        }

        private int likingBehind(int last, int next) {
            return last == NONE || next == NONE ? 0 : liked[last * IN_ROW + next];
        }

        void putUp() {
            for (int i = 0; i < PICTURES; i++) {
                if (house.hung.wallUnder(i) == wall) {
                    house.hung.take(i);
                }
            }
            for (int i = 0; i < found.size; i++) {
                house.hung.put(found.get(i), wall, lefts.get(i));
            }
            found.clear();
        }
    }

    /** Moves, and how they are shared among nights; sets of moves are bits. */
    private static final class Moves {
        final House house;
        final Numbers pictures = new Numbers(MOVES);
        final Numbers walls = new Numbers(MOVES);
        final Numbers lefts = new Numbers(MOVES);
        final int[] can = new int[1 << MOVES];
        final int[] touched = new int[1 << MOVES];
        final int[] need = new int[1 << MOVES];
        final boolean[] reached = new boolean[1 << MOVES];

        Moves(House house) {
            this.house = house;
        }

        void forget() {
            pictures.clear();
            walls.clear();
            lefts.clear();
        }

        private int allMoves() {
            return (1 << pictures.size) - 1;
        }

        /** Hangs the pictures for a trial as they would hang with these moves done. */
        private void tryDone(int moves) {
            house.trial.become(house.hung);
            for (int i = 0; i < pictures.size; i++) {
                if ((moves >> i & 1) != 0) {
                    house.trial.put(pictures.get(i), walls.get(i), lefts.get(i));
                }
            }
        }

        private boolean canStand(int move) {
            Picture p = house.present(pictures.get(move));
            Wall w = house.wallAt(walls.get(move));
            return p != null && w != null && house.hindrance(house.trial, p, w, lefts.get(move)) == 0;
        }

        boolean allCanStand() {
            tryDone(allMoves());
            for (int i = 0; i < pictures.size; i++) {
                if (!canStand(i)) {
                    return false;
                }
            }
            return true;
        }

        private int roomsOf(int move) {
            Wall from = house.wallAt(house.hung.wallUnder(pictures.get(move)));
            Wall to = house.wallAt(walls.get(move));
            return (from == null ? 0 : 1 << from.room) | (to == null ? 0 : 1 << to.room);
        }

        private void lookAtSets() {
            int all = allMoves();
            for (int moves = 0; moves <= all; moves++) {
                tryDone(moves);
                can[moves] = 0;
                touched[moves] = 0;
                for (int i = 0; i < pictures.size; i++) {
                    if ((moves >> i & 1) != 0) {
                        touched[moves] |= roomsOf(i);
                    } else if (canStand(i)) {
                        can[moves] |= 1 << i;
                    }
                }
            }
        }

        /** The fewest nights for all moves, FAR if they can't be. */
        int plan(int g, int r) {
            lookAtSets();
            int all = allMoves();
            need[all] = 0;
            for (int from = all - 1; from >= 0; from--) {
                need[from] = FAR;
                reachFrom(from);
                for (int to = from; to <= all; to = to + 1 | from) {
                    if (isNight(from, to, g, r)) {
                        need[from] = Math.min(need[from], need[to] + 1);
                    }
                }
            }
            return need[0];
        }

        void tellPlan(int g, int r, Numbers told) {
            int from = 0;
            for (int left = need[0] - 1; left >= 0; left--) {
                reachFrom(from);
                int to = leastNight(from, left, g, r);
                told.add(to ^ from);
                from = to;
            }
        }

        /** The moves that are done behind the least night after which so many nights are left. */
        private int leastNight(int from, int left, int g, int r) {
            int all = allMoves();
            for (int to = from; to < all; to = to + 1 | from) {
                if (isNight(from, to, g, r) && need[to] == left) {
                    return to;
                }
            }
            return all;
        }

        /** Marks the sets to which these moves can be brought by doing one more each time. */
        private void reachFrom(int from) {
            int all = allMoves();
            for (int to = from; to <= all; to = to + 1 | from) {
                reached[to] = to == from;
                for (int i = 0; i < pictures.size && !reached[to]; i++) {
                    int before = to & ~(1 << i);
                    boolean more = (to & ~from & 1 << i) != 0;
                    reached[to] = more && reached[before] && (can[before] >> i & 1) != 0;
                }
            }
        }

        private boolean isNight(int from, int to, int g, int r) {
            int moves = to ^ from;
            return moves != 0 && reached[to] && Integer.bitCount(moves) <= g
                && Integer.bitCount(touched[moves]) <= r;
        }
    }
}
