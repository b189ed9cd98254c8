import java.util.NoSuchElementException;

/**
 * A carousel: shelves in a ring with units on them, turns by the shorter way, lists of units
 * fetched with the least turns exactly or by rule, stations with doors, blocked shelves, shelves
 * changed, counts of units that fall by days, the place to rest at.
 */
public final class CarouselRows {
    private static final int MOST_PLACES = 24;
    private static final int UNITS = 20;
    private static final int STATIONS = 2;
    private static final int MOST_ON_SHELF = 4;
    private static final int MOST_ON_LIST = 8;
    private static final int MOST_EXACT = 6;
    private static final int MOST_DAYS = 30;
    private static final int COUNT_OF_FETCHING = 64;
    private static final int NOWHERE = -1;

    private final int places;
    private final int[] placeOf = new int[MOST_PLACES];
    private final int[] shelfAt = new int[MOST_PLACES];
    private final boolean[] isBlocked = new boolean[MOST_PLACES];
    private final int[] shelfOf = new int[UNITS];
    private final int[] counts = new int[UNITS];
    private final boolean[] isOpen = new boolean[STATIONS];
    private final int[] list = new int[MOST_ON_LIST];
    private final Planner planner;
    private int listed;
    private int front;
    private int turns;
    private int fetched;

    public CarouselRows(int shelves) {
        places = Math.max(0, Math.min(MOST_PLACES, shelves));
        planner = new Planner(places);
        for (int i = 0; i < MOST_PLACES; i++) {
            placeOf[i] = i;
            shelfAt[i] = i;
        }
        for (int i = 0; i < UNITS; i++) {
            shelfOf[i] = NOWHERE;
        }
    }

    public int put(int shelf, int unit)
            throws NoSuchElementException, IllegalArgumentException, IllegalStateException,
                    UnsupportedOperationException {
        needShelf(shelf);
        needUnit(unit);
        if (shelfOf[unit] != NOWHERE) {
            throw new IllegalStateException("the unit lies on a shelf");
        }
        int lying = unitsOn(shelf);
        if (lying >= MOST_ON_SHELF) {
            throw new UnsupportedOperationException("the shelf is full");
        }
        shelfOf[unit] = shelf;
        return lying + 1;
    }

    public int turn(int to)
            throws ArithmeticException, IllegalArgumentException, IllegalStateException {
        needPlaces();
        if (to < 0 || to >= places) {
            throw new IllegalArgumentException("no such place");
        }
        needClosedDoors();
        int way = distance(front, to, places);
        front = to;
        turns += way;
        return way;
    }

    public int want(int unit)
            throws IllegalArgumentException, IllegalStateException, UnsupportedOperationException {
        needUnit(unit);
        if (!canBeFetched(unit)) {
            throw new IllegalStateException("the unit lies nowhere or its shelf is blocked");
        }
        if (isListed(unit)) {
            throw new IllegalStateException("the unit is on the list");
        }
        if (listed >= MOST_ON_LIST) {
            throw new UnsupportedOperationException("the list is full");
        }
        list[listed] = unit;
        listed++;
        return listed;
    }

    public int plan(int most) throws IllegalArgumentException, IllegalStateException {
        if (most < 0 || most > MOST_EXACT) {
            throw new IllegalArgumentException("no such number of shelves for an exact plan");
        }
        // All is tested before the planner is touched: a refused plan leaves the latest one alone.
        for (int i = 0; i < listed; i++) {
            if (!canBeFetched(list[i])) {
                throw new IllegalStateException("a unit lies nowhere or its shelf is blocked");
            }
        }
        planner.forget();
        for (int shelf = 0; shelf < places; shelf++) {
            if (holdsListed(shelf)) {
                planner.addStop(shelf, placeOf[shelf]);
            }
        }
        return planner.order(front, most);
    }

    public int at(int i) {
        return planner.shelfOfStop(i);
    }

    public boolean exact() {
        return planner.isExact;
    }

    public int clear() {
        int had = listed;
        listed = 0;
        planner.forget();
        return had;
    }

    public boolean pick(int unit, int station)
            throws ArithmeticException, IllegalArgumentException, IllegalStateException {
        needPlaces();
        needUnit(unit);
        needStation(station);
        int shelf = shelfAt[front];
        if (!isOpen[station]) {
            throw new IllegalStateException("the station's door is closed");
        }
        if (isBlocked[shelf]) {
            throw new IllegalStateException("the shelf in front is blocked");
        }
        if (shelfOf[unit] != shelf) {
            return false;
        }
        shelfOf[unit] = NOWHERE;
        counts[unit] += COUNT_OF_FETCHING;
        fetched++;
        return true;
    }

    public boolean door(int station, boolean open) throws IllegalArgumentException {
        needStation(station);
        boolean was = isOpen[station];
        isOpen[station] = open;
        return was;
    }

    public int move(int shelf, int other) throws NoSuchElementException, IllegalStateException {
        needShelf(shelf);
        needShelf(other);
        needClosedDoors();
        if (shelf == other) {
            throw new IllegalStateException("the shelves are the same");
        }
        int place = placeOf[shelf];
        int otherPlace = placeOf[other];
        setPlace(shelf, otherPlace);
        setPlace(other, place);
        return distance(place, otherPlace, places);
    }

    public boolean blocked(int shelf, boolean on) throws NoSuchElementException {
        needShelf(shelf);
        boolean was = isBlocked[shelf];
        isBlocked[shelf] = on;
        return was;
    }

    public void days(int n) throws IllegalArgumentException {
        if (n < 0 || n > MOST_DAYS) {
            throw new IllegalArgumentException("no such number of days");
        }
        for (int unit = 0; unit < UNITS; unit++) {
            counts[unit] >>= n;
        }
    }

    public int learned(int unit) throws IllegalArgumentException {
        needUnit(unit);
        return counts[unit];
    }

    public int rest() {
        if (places == 0) {
            return NOWHERE;
        }
        int best = 0;
        int most = countsOn(0);
        for (int shelf = 1; shelf < places; shelf++) {
            int sum = countsOn(shelf);
            if (sum > most) {
                best = shelf;
                most = sum;
            }
        }
        return placeOf[best];
    }

    public int shelf(int shelf, int what) throws NoSuchElementException, IllegalArgumentException {
        needShelf(shelf);
        switch (what) {
            case 0:
                return placeOf[shelf];
            case 1:
                return unitsOn(shelf);
            case 2:
                return isBlocked[shelf] ? 1 : 0;
            case 3:
                return distance(front, placeOf[shelf], places);
            case 4:
                return countsOn(shelf);
            default:
                throw new IllegalArgumentException("nothing is told of a shelf by this number");
        }
    }

    public int unit(int unit) throws IllegalArgumentException {
        needUnit(unit);
        return shelfOf[unit];
    }

    public int count(int what) {
        switch (what) {
            case 0:
                return places;
            case 1:
                return places == 0 ? NOWHERE : front;
            case 2:
                return turns;
            case 3:
                return unitsOnShelves();
            case 4:
                return listed;
            case 5:
                return fetched;
            default:
                return -1;
        }
    }

    private boolean isShelf(int shelf) {
        return shelf >= 0 && shelf < places;
    }

    private void needShelf(int shelf) {
        if (!isShelf(shelf)) {
            throw new NoSuchElementException("no such shelf");
        }
    }

    private static void needUnit(int unit) {
        if (unit < 0 || unit >= UNITS) {
            throw new IllegalArgumentException("no such unit");
        }
    }

    private static void needStation(int station) {
        if (station < 0 || station >= STATIONS) {
            throw new IllegalArgumentException("no such station");
        }
    }

    private void needPlaces() {
        if (places == 0) {
            // The document asks for the machine's own exception, so its text is kept as well.
            throw new ArithmeticException("/ by zero");
        }
    }

    private void needClosedDoors() {
        for (int station = 0; station < STATIONS; station++) {
            if (isOpen[station]) {
                throw new IllegalStateException("a door is open");
            }
        }
    }

    private static int distance(int place, int other, int ring) {
        int way = Math.abs(place - other);
        return Math.min(way, ring - way);
    }

    private void setPlace(int shelf, int place) {
        placeOf[shelf] = place;
        shelfAt[place] = shelf;
    }

    private boolean canBeFetched(int unit) {
        int shelf = shelfOf[unit];
        return isShelf(shelf) && !isBlocked[shelf];
    }

    private boolean isListed(int unit) {
        for (int i = 0; i < listed; i++) {
            if (list[i] == unit) {
                return true;
            }
        }
        return false;
    }

    private boolean holdsListed(int shelf) {
        for (int i = 0; i < listed; i++) {
            if (shelfOf[list[i]] == shelf) {
                return true;
            }
        }
        return false;
    }

    private int unitsOn(int shelf) {
        int lying = 0;
        for (int unit = 0; unit < UNITS; unit++) {
            if (shelfOf[unit] == shelf) {
                lying++;
            }
        }
        return lying;
    }

    private int unitsOnShelves() {
        return UNITS - unitsOn(NOWHERE);
    }

    private int countsOn(int shelf) {
        int sum = 0;
        for (int unit = 0; unit < UNITS; unit++) {
            if (shelfOf[unit] == shelf) {
                sum += counts[unit];
            }
        }
        return sum;
    }

    /**
     * Holds the latest plan. Its stops are added by rising shelf number, so that of equal choices
     * the first one met is the one with the lowest number.
     */
    private static final class Planner {
        private static final int NONE = -1;
        private static final int MORE_THAN_ANY_PLAN = MOST_PLACES * (MOST_ON_LIST + 1);

        private final int ring;
        private final int[] shelves = new int[MOST_ON_LIST];
        private final int[] stopPlaces = new int[MOST_ON_LIST];
        private final boolean[] taken = new boolean[MOST_ON_LIST];
        private final int[] trial = new int[MOST_ON_LIST];
        private final int[] best = new int[MOST_ON_LIST];
        private int stops;
        private int fewest;
        private boolean isExact;

        private Planner(int ring) {
            this.ring = ring;
        }

        private void forget() {
            stops = 0;
            isExact = false;
        }

        private void addStop(int shelf, int place) {
            // Eight units lie on eight shelves at most, so nothing is ever dropped here.
            if (stops < MOST_ON_LIST) {
                shelves[stops] = shelf;
                stopPlaces[stops] = place;
                taken[stops] = false;
                stops++;
            }
        }

        private int order(int start, int most) {
            isExact = stops <= most;
            if (isExact) {
                fewest = MORE_THAN_ANY_PLAN;
                tryAll(0, start, 0);
            } else {
                followRule(start);
            }
            return fewest;
        }

        /** Tries the orders by rising numbers, so that of equally short ones the first stays. */
        private void tryAll(int depth, int from, int turned) {
            if (turned >= fewest) {
                return;
            }
            if (depth >= stops) {
                fewest = turned;
                System.arraycopy(trial, 0, best, 0, stops);
                return;
            }
            for (int i = 0; i < stops; i++) {
                if (!taken[i]) {
                    taken[i] = true;
                    trial[depth] = i;
                    tryAll(depth + 1, stopPlaces[i], turned + distance(from, stopPlaces[i], ring));
                    taken[i] = false;
                }
            }
        }

        private void followRule(int start) {
            int from = start;
            fewest = 0;
            for (int k = 0; k < stops; k++) {
                int next = nearest(from);
                if (next == NONE) {
                    return;
                }
                taken[next] = true;
                best[k] = next;
                fewest += distance(from, stopPlaces[next], ring);
                from = stopPlaces[next];
            }
        }

        private int nearest(int from) {
            int found = NONE;
            int least = MORE_THAN_ANY_PLAN;
            for (int i = 0; i < stops; i++) {
                int way = distance(from, stopPlaces[i], ring);
                if (!taken[i] && way < least) {
                    found = i;
                    least = way;
                }
            }
            return found;
        }

        private int shelfOfStop(int i) {
            if (i < 0 || i >= stops) {
                return NONE;
            }
            return shelves[best[i]];
        }
    }
}
