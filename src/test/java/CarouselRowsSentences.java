import java.util.Arrays;
import java.util.NoSuchElementException;
import java.util.function.Consumer;
import java.util.function.Supplier;

/**
 * A test of its own for each sentence of the document that names a boundary case. What is wrong is
 * printed behind the promise's number and the sentence's own words; words that stand outside the
 * promise are marked with the part of the document in which they stand.
 */
public final class CarouselRowsSentences {
    private static final Class<?> ELEMENT = NoSuchElementException.class;
    private static final Class<?> ARGUMENT = IllegalArgumentException.class;
    private static final Class<?> STATE = IllegalStateException.class;
    private static final Class<?> ROOM = UnsupportedOperationException.class;
    private static final Class<?> NO_PLACES = ArithmeticException.class;

    private static final int LEAST = Integer.MIN_VALUE;
    private static final int GREATEST = Integer.MAX_VALUE;
    private static final int[] NO_UNITS = {LEAST, -20, -1, 20, 21, GREATEST};
    private static final int[] NO_STATIONS = {LEAST, -1, 2, 3, GREATEST};

    private static String sentence = "";
    private static int tests = 0;
    private static int wrong = 0;

    // How a sentence is tested.

    private static void test(int promise, String words, Runnable calls) {
        tests++;
        sentence = "promise " + promise + ", \"" + words + "\": ";
        try {
            calls.run();
        } catch (RuntimeException | Error e) {
            tell("a call threw " + e);
        }
    }

    private static void tell(String fault) {
        wrong++;
        System.out.println(sentence + fault);
    }

    private static void due(String call, Object got, Object want) {
        if (!got.equals(want)) {
            tell(call + " answered " + got + ", due is " + want);
        }
    }

    private static void thrown(String call, Class<?> want, Runnable asked) {
        Class<?> got = null;
        try {
            asked.run();
        } catch (RuntimeException | Error e) {
            got = e.getClass();
        }
        if (got != want) {
            tell(call + " threw " + got + ", due is " + want);
        }
    }

    /** The call is refused, and its object is afterwards as one that was not asked. */
    private static void refused(
            String call, Class<?> want, Supplier<CarouselRows> made, Consumer<CarouselRows> asked) {
        CarouselRows c = made.get();
        thrown(call, want, () -> asked.accept(c));
        due(call + ", refused, leaves", seen(c), seen(made.get()));
    }

    private static void changesNothing(
            String call, Supplier<CarouselRows> made, Consumer<CarouselRows> asked) {
        CarouselRows c = made.get();
        asked.accept(c);
        due(call + " leaves", seen(c), seen(made.get()));
    }

    /** All that calls can tell of an object; the last of them change it. */
    private static String seen(CarouselRows c) {
        StringBuilder all = new StringBuilder("counts");
        for (int what = 0; what <= 5; what++) {
            all.append(' ').append(c.count(what));
        }
        all.append(", rest ").append(c.rest()).append(", plan ").append(shelvesOfPlan(c));
        all.append(c.exact() ? " exact" : " not exact").append(", shelves");
        for (int shelf = 0; shelf < c.count(0); shelf++) {
            for (int what = 0; what <= 4; what++) {
                all.append(' ').append(c.shelf(shelf, what));
            }
        }
        all.append(", units");
        for (int unit = 0; unit < 20; unit++) {
            all.append(' ').append(c.unit(unit)).append(':').append(c.learned(unit));
        }
        all.append(", doors ").append(c.door(0, false)).append(' ').append(c.door(1, false));
        all.append(", listed");
        for (int unit = 0; unit < 20; unit++) {
            all.append(wantRefused(c, unit) ? " no" : " yes");
        }
        return all.toString();
    }

    private static boolean wantRefused(CarouselRows c, int unit) {
        try {
            c.want(unit);
            return false;
        } catch (IllegalStateException | UnsupportedOperationException e) {
            return true;
        }
    }

    // How an object is brought to where a sentence begins.

    /** A ring with unit i on shelf shelves[i]. */
    private static CarouselRows ring(int places, int... shelves) {
        CarouselRows c = new CarouselRows(places);
        for (int unit = 0; unit < shelves.length; unit++) {
            c.put(shelves[unit], unit);
        }
        return c;
    }

    /** A ring with unit i on shelf shelves[i], all of them on the list, the last one first. */
    private static CarouselRows wanted(int places, int... shelves) {
        CarouselRows c = ring(places, shelves);
        for (int unit = shelves.length - 1; unit >= 0; unit--) {
            c.want(unit);
        }
        return c;
    }

    private static void fetch(CarouselRows c, int unit) {
        c.turn(c.shelf(c.unit(unit), 0));
        c.door(0, true);
        due("pick(" + unit + ", 0) in front of an open door", c.pick(unit, 0), true);
        c.door(0, false);
    }

    /** The unit is fetched so many times and lies on its shelf again. */
    private static void use(CarouselRows c, int unit, int times) {
        int shelf = c.unit(unit);
        for (int i = 0; i < times; i++) {
            fetch(c, unit);
            c.put(shelf, unit);
        }
    }

    private static String shelvesOfPlan(CarouselRows c) {
        StringBuilder shelves = new StringBuilder();
        for (int i = 0; i < 10; i++) {
            shelves.append(c.at(i)).append(' ');
        }
        return shelves.toString();
    }

    private static void planned(CarouselRows c, int most, int turns, boolean exact, int... shelves) {
        due("plan(" + most + ")", c.plan(most), turns);
        due("exact() behind plan(" + most + ")", c.exact(), exact);
        StringBuilder want = new StringBuilder();
        for (int i = 0; i < 10; i++) {
            want.append(i < shelves.length ? shelves[i] : -1).append(' ');
        }
        due("at(0), at(1), .. behind plan(" + most + ")", shelvesOfPlan(c), want.toString());
    }

    // Promise 1: A new object.

    private static void newObject() {
        test(1, "A ring of so many places", () -> {
            for (int n = 0; n <= 24; n++) {
                ringOf("CarouselRows(" + n + ")", new CarouselRows(n), n);
            }
        });
        test(1, "below 0 as 0", () -> {
            for (int n : new int[] {-1, -2, -24, -25, LEAST + 1, LEAST}) {
                ringOf("CarouselRows(" + n + ")", new CarouselRows(n), 0);
            }
        });
        test(1, "above 24 as 24", () -> {
            for (int n : new int[] {25, 26, 48, 256, GREATEST - 1, GREATEST}) {
                ringOf("CarouselRows(" + n + ")", new CarouselRows(n), 24);
            }
        });
        test(1, "Terms: PLACES 0, 1, .. as many as it was made for", () -> {
            for (int n = 1; n <= 24; n++) {
                CarouselRows c = new CarouselRows(n);
                int last = n - 1;
                c.turn(last);
                due("count(1) behind turn(" + last + ")", c.count(1), last);
                thrown("turn(" + n + ") of " + n + " places", ARGUMENT, () -> c.turn(last + 1));
            }
        });
        test(1, "Terms: at each a SHELF (numbered as its place at first)", () -> {
            CarouselRows c = new CarouselRows(24);
            for (int shelf = 0; shelf < 24; shelf++) {
                due("shelf(" + shelf + ", 0)", c.shelf(shelf, 0), shelf);
            }
        });
        test(1, "Terms: One place is IN FRONT (0 at first)", () -> {
            for (int n = 1; n <= 24; n++) {
                due("count(1) of " + n + " places", new CarouselRows(n).count(1), 0);
            }
        });
        newObjectIsEmpty();
    }

    private static void ringOf(String made, CarouselRows c, int places) {
        due(made + ": count(0)", c.count(0), places);
        due(made + ": count(1)", c.count(1), places == 0 ? -1 : 0);
        due(made + ": rest()", c.rest(), places == 0 ? -1 : 0);
        if (places > 0) {
            due(made + ": shelf(" + (places - 1) + ", 0)", c.shelf(places - 1, 0), places - 1);
        }
        thrown(made + ": shelf(" + places + ", 0)", ELEMENT, () -> c.shelf(places, 0));
        thrown(made + ": put(" + places + ", 0)", ELEMENT, () -> c.put(places, 0));
        thrown(made + ": turn(" + places + ")", places == 0 ? NO_PLACES : ARGUMENT, () -> c.turn(places));
    }

    private static void newObjectIsEmpty() {
        test(1, "A new object (no units, no list, no plan, nothing counted, no shelf blocked)", () -> {
            CarouselRows c = new CarouselRows(24);
            for (int what = 2; what <= 5; what++) {
                due("count(" + what + ")", c.count(what), 0);
            }
            for (int unit = 0; unit < 20; unit++) {
                due("unit(" + unit + ")", c.unit(unit), -1);
                due("learned(" + unit + ")", c.learned(unit), 0);
            }
            for (int shelf = 0; shelf < 24; shelf++) {
                due("shelf(" + shelf + ", 1)", c.shelf(shelf, 1), 0);
                due("shelf(" + shelf + ", 2)", c.shelf(shelf, 2), 0);
                due("shelf(" + shelf + ", 4)", c.shelf(shelf, 4), 0);
            }
            due("exact()", c.exact(), false);
            due("at(0)", c.at(0), -1);
            due("clear()", c.clear(), 0);
        });
        test(1, "A new object (another one's calls do not touch it)", () -> {
            CarouselRows other = new CarouselRows(6);
            String before = seen(new CarouselRows(6));
            CarouselRows busy = wanted(6, 0, 1, 2);
            use(busy, 0, 2);
            busy.plan(6);
            busy.move(1, 5);
            busy.blocked(3, true);
            busy.door(1, true);
            due("an object beside a busy one", seen(other), before);
        });
        test(1, "What it is: An object is used for at most 512 calls (the 512th answer holds)", () -> {
            CarouselRows turned = new CarouselRows(24);
            for (int call = 1; call <= 511; call++) {
                turned.turn(call % 2 == 1 ? 12 : 0);
            }
            due("count(2) behind 511 times 12 turns", turned.count(2), 6132);
            CarouselRows used = new CarouselRows(1);
            used.door(1, true);
            for (int i = 0; i < 255; i++) {
                used.put(0, 7);
                used.pick(7, 1);
            }
            due("learned(7) behind 255 fetchings", used.learned(7), 255 * 64);
        });
    }

    // Promise 2: put.

    private static void put() {
        test(2, "A unit is put onto a shelf: how many lie there", () -> {
            CarouselRows c = new CarouselRows(3);
            int[][] puts = {{2, 9, 1}, {0, 4, 1}, {2, 1, 2}, {2, 12, 3}, {0, 0, 2}, {2, 3, 4}, {1, 19, 1}};
            for (int[] p : puts) {
                due("put(" + p[0] + ", " + p[1] + ")", c.put(p[0], p[1]), p[2]);
                due("unit(" + p[1] + ")", c.unit(p[1]), p[0]);
            }
            due("shelf(2, 1)", c.shelf(2, 1), 4);
            due("count(3)", c.count(3), 7);
        });
        test(2, "A unit is put onto a shelf (the document refuses no blocked one, and no open door)", () -> {
            CarouselRows c = new CarouselRows(2);
            c.blocked(1, true);
            c.door(0, true);
            c.door(1, true);
            due("put(1, 0)", c.put(1, 0), 1);
            due("unit(0)", c.unit(0), 1);
        });
        test(2, "Terms: UNITS are 0 .. 19", () -> {
            CarouselRows c = new CarouselRows(5);
            for (int unit = 0; unit < 20; unit++) {
                due("put(" + unit % 5 + ", " + unit + ")", c.put(unit % 5, unit), unit / 5 + 1);
            }
            due("count(3)", c.count(3), 20);
        });
        test(2, "Terms: IllegalArgumentException: another number outside its range (the unit)", () -> {
            for (int unit : NO_UNITS) {
                refused("put(0, " + unit + ")", ARGUMENT, () -> ring(3, 0, 1), c -> c.put(0, unit));
            }
        });
        test(2, "Terms: NoSuchElementException: a shelf that there is not", () -> {
            for (int shelf : new int[] {LEAST, -1, 3, 4, 23, 24, GREATEST}) {
                refused("put(" + shelf + ", 5)", ELEMENT, () -> ring(3, 0, 1), c -> c.put(shelf, 5));
            }
            refused("put(0, 5) without places", ELEMENT, () -> ring(0), c -> c.put(0, 5));
            refused("put(24, 5) of 24 places", ELEMENT, () -> ring(24), c -> c.put(24, 5));
        });
        putRefusedByState();
        putRefusalsInOrder();
    }

    private static void putRefusedByState() {
        test(2, "IllegalStateException: it lies on one", () -> {
            refused("put(1, 0) onto its own shelf", STATE, () -> ring(3, 1), c -> c.put(1, 0));
            refused("put(0, 0) onto a lower shelf", STATE, () -> ring(3, 1), c -> c.put(0, 0));
            refused("put(2, 0) onto a higher shelf", STATE, () -> ring(3, 1), c -> c.put(2, 0));
            refused("put(2, 0) from shelf 0", STATE, () -> ring(3, 0), c -> c.put(2, 0));
            refused("put(0, 19) of the last unit", STATE, () -> {
                CarouselRows c = ring(3);
                c.put(2, 19);
                return c;
            }, c -> c.put(0, 19));
        });
        test(2, "Terms: each lies on one shelf at most", () -> {
            CarouselRows c = ring(3, 1);
            thrown("put(2, 0)", STATE, () -> c.put(2, 0));
            due("shelf(1, 1)", c.shelf(1, 1), 1);
            due("shelf(2, 1)", c.shelf(2, 1), 0);
            due("count(3)", c.count(3), 1);
        });
        test(2, "UnsupportedOperationException: four do", () -> {
            for (int n : new int[] {1, 3, 24}) {
                for (int full = 0; full < n; full++) {
                    int shelf = full;
                    refused("put(" + shelf + ", 9) behind four", ROOM,
                            () -> ring(n, shelf, shelf, shelf, shelf), c -> c.put(shelf, 9));
                }
            }
        });
        test(2, "Terms: up to four on a shelf", () -> {
            CarouselRows c = ring(5, 0, 0, 0, 0, 1, 1, 1, 2, 2);
            due("put(1, 10), the fourth", c.put(1, 10), 4);
            due("put(2, 11), the third", c.put(2, 11), 3);
            due("put(3, 12), the first beside full shelves", c.put(3, 12), 1);
            thrown("put(0, 13), the fifth", ROOM, () -> c.put(0, 13));
            fetch(c, 2);
            due("put(0, 13) when one of four was fetched", c.put(0, 13), 4);
            thrown("put(0, 2), the fifth again", ROOM, () -> c.put(0, 2));
        });
        test(2, "Terms: FETCHING a unit takes it off; it comes back with put()", () -> {
            CarouselRows c = ring(4, 2, 3);
            fetch(c, 0);
            due("unit(0)", c.unit(0), -1);
            due("put(2, 0) back to its shelf", c.put(2, 0), 1);
            fetch(c, 0);
            due("put(3, 0) to another shelf", c.put(3, 0), 2);
            due("unit(0)", c.unit(0), 3);
            due("learned(0) that comes back", c.learned(0), 128);
        });
    }

    private static void putRefusalsInOrder() {
        test(2, "Terms: REFUSALS, the first that holds", () -> {
            Supplier<CarouselRows> full = () -> ring(3, 1, 1, 1, 1, 2);
            refused("put(3, 20): no shelf, no unit", ELEMENT, full, c -> c.put(3, 20));
            refused("put(-1, -1): no shelf, no unit", ELEMENT, full, c -> c.put(-1, -1));
            refused("put(3, 0): no shelf, lies on one", ELEMENT, full, c -> c.put(3, 0));
            refused("put(1, 20): no unit, four lie there", ARGUMENT, full, c -> c.put(1, 20));
            refused("put(1, -1): no unit, four lie there", ARGUMENT, full, c -> c.put(1, -1));
            refused("put(1, 0): lies there, four do", STATE, full, c -> c.put(1, 0));
            refused("put(1, 4): lies elsewhere, four lie there", STATE, full, c -> c.put(1, 4));
            refused("put(0, 20) without places", ELEMENT, () -> ring(0), c -> c.put(0, 20));
        });
    }

    // Promise 3: turn.

    private static int walk(int from, int to, int places, int step) {
        int steps = 0;
        for (int at = from; at != to; at = (at + step + places) % places) {
            steps++;
        }
        return steps;
    }

    private static int shorterWalk(int from, int to, int places) {
        int up = walk(from, to, places, 1);
        int down = walk(from, to, places, -1);
        return up <= down ? up : down;
    }

    private static void turn() {
        test(3, "A place is turned to the front: how many turns that was", () -> {
            CarouselRows c = new CarouselRows(9);
            int[][] turns = {{2, 2}, {5, 3}, {5, 0}, {4, 1}, {8, 4}, {3, 4}, {0, 3}};
            for (int[] t : turns) {
                due("turn(" + t[0] + ")", c.turn(t[0]), t[1]);
                due("count(1)", c.count(1), t[0]);
            }
        });
        test(3, "Terms: by the shorter way", () -> {
            for (int n = 1; n <= 24; n++) {
                for (int from = 0; from < n; from++) {
                    CarouselRows c = new CarouselRows(n);
                    for (int to = 0; to < n; to++) {
                        c.turn(from);
                        due("turn(" + to + ") from " + from + " of " + n, c.turn(to), shorterWalk(from, to, n));
                    }
                }
            }
        });
        test(3, "Terms: place 0 behind the last one", () -> {
            for (int n = 2; n <= 24; n++) {
                CarouselRows c = new CarouselRows(n);
                due("turn(" + (n - 1) + ") from 0 of " + n, c.turn(n - 1), 1);
                due("turn(0) from " + (n - 1) + " of " + n, c.turn(0), 1);
            }
            due("turn(0) of one place", new CarouselRows(1).turn(0), 0);
        });
        test(3, "Terms: (upward, if both are as long)", () -> {
            for (int n = 2; n <= 24; n += 2) {
                CarouselRows c = new CarouselRows(n);
                due("turn(" + n / 2 + ") of " + n, c.turn(n / 2), n / 2);
                due("turn(0) of " + n, c.turn(0), n / 2);
                due("count(1)", c.count(1), 0);
                due("count(2)", c.count(2), n);
            }
        });
        test(3, "Terms: TURNS are counted", () -> {
            CarouselRows c = new CarouselRows(10);
            int[][] turns = {{3, 3}, {9, 7}, {9, 7}, {4, 12}, {5, 13}, {0, 18}};
            for (int[] t : turns) {
                c.turn(t[0]);
                due("count(2) behind turn(" + t[0] + ")", c.count(2), t[1]);
            }
        });
        test(3, "Terms: TURNING to a place brings it in front (the place, not the shelf of that number)", () -> {
            CarouselRows c = ring(8, 2);
            c.move(2, 5);
            due("turn(2)", c.turn(2), 2);
            due("count(1)", c.count(1), 2);
            due("shelf(5, 3), the one that is there now", c.shelf(5, 3), 0);
            due("shelf(2, 3), the one that was there", c.shelf(2, 3), 3);
        });
        turnRefused();
    }

    private static void turnRefused() {
        test(3, "ArithmeticException (the machine's own): the ring has no places", () -> {
            for (int to : new int[] {LEAST, -1, 0, 1, 24, GREATEST}) {
                refused("turn(" + to + ") of 0 places", NO_PLACES, () -> ring(0), c -> c.turn(to));
                refused("turn(" + to + ") of -3 places", NO_PLACES, () -> ring(-3), c -> c.turn(to));
            }
        });
        test(3, "IllegalArgumentException: no such place", () -> {
            for (int n : new int[] {1, 2, 7, 24}) {
                for (int to : new int[] {LEAST, -n, -1, n, n + 1, 2 * n, GREATEST}) {
                    refused("turn(" + to + ") of " + n, ARGUMENT, () -> ring(n), c -> c.turn(to));
                }
            }
        });
        test(3, "IllegalStateException: a door is open", () -> {
            for (int open = 1; open <= 3; open++) {
                int doors = open;
                refused("turn(2), doors " + doors, STATE, () -> open(ring(5, 1), doors), c -> c.turn(2));
            }
            refused("turn(0), that is in front", STATE, () -> open(ring(5), 1), c -> c.turn(0));
            refused("turn(0) of one place", STATE, () -> open(ring(1), 2), c -> c.turn(0));
        });
        test(3, "Terms: No door may be open then (with the last one closed it turns)", () -> {
            CarouselRows c = open(ring(5), 3);
            c.door(0, false);
            thrown("turn(2), door 1 still open", STATE, () -> c.turn(2));
            c.door(1, false);
            due("turn(2), both closed", c.turn(2), 2);
            c.door(0, true);
            thrown("turn(1), door 0 open again", STATE, () -> c.turn(1));
        });
        test(3, "Terms: REFUSALS, the first that holds", () -> {
            refused("turn(-1): no places, no such place", NO_PLACES, () -> ring(0), c -> c.turn(-1));
            refused("turn(0): no places, open", NO_PLACES, () -> open(ring(0), 3), c -> c.turn(0));
            refused("turn(5): no such place, open", ARGUMENT, () -> open(ring(5), 1), c -> c.turn(5));
            refused("turn(-1): no such place, open", ARGUMENT, () -> open(ring(5), 2), c -> c.turn(-1));
        });
    }

    /** Doors to be opened: 1 the first one, 2 the second one, 3 both. */
    private static CarouselRows open(CarouselRows c, int doors) {
        if ((doors & 1) != 0) {
            c.door(0, true);
        }
        if ((doors & 2) != 0) {
            c.door(1, true);
        }
        return c;
    }

    // Promise 4: want.

    private static CarouselRows blockedAt(CarouselRows c, int shelf) {
        c.blocked(shelf, true);
        return c;
    }

    private static CarouselRows fetched(CarouselRows c, int unit) {
        fetch(c, unit);
        return c;
    }

    /** Units 0 .. 7 are on the list, units 8 and 9 are not; shelf i / 2 holds unit i. */
    private static CarouselRows fullList() {
        CarouselRows c = ring(6, 0, 0, 1, 1, 2, 2, 3, 3, 4, 4);
        for (int unit = 0; unit < 8; unit++) {
            c.want(unit);
        }
        return c;
    }

    private static void want() {
        test(4, "A unit comes to the list: how many it has", () -> {
            CarouselRows c = ring(9, 8, 8, 8, 8, 3, 5, 1, 0);
            int[] order = {3, 0, 7, 5, 1, 6, 2, 4};
            for (int i = 0; i < 8; i++) {
                due("want(" + order[i] + ")", c.want(order[i]), i + 1);
                due("count(4)", c.count(4), i + 1);
            }
        });
        test(4, "Terms: UNITS are 0 .. 19", () -> {
            CarouselRows c = ring(5);
            c.put(0, 0);
            c.put(4, 19);
            due("want(19)", c.want(19), 1);
            due("want(0)", c.want(0), 2);
        });
        test(4, "Terms: IllegalArgumentException: another number outside its range", () -> {
            for (int unit : NO_UNITS) {
                refused("want(" + unit + ")", ARGUMENT, () -> ring(3, 0, 1), c -> c.want(unit));
            }
        });
        test(4, "IllegalStateException: it lies nowhere", () -> {
            refused("want(5), never put", STATE, () -> ring(3, 0, 1), c -> c.want(5));
            refused("want(1), fetched", STATE, () -> fetched(ring(3, 0, 1), 1), c -> c.want(1));
            refused("want(0) without places", STATE, () -> ring(0), c -> c.want(0));
            CarouselRows back = fetched(ring(3, 0, 1), 1);
            back.put(2, 1);
            due("want(1) that came back", back.want(1), 1);
        });
        test(4, "IllegalStateException: its shelf is blocked", () -> {
            for (int shelf = 0; shelf < 3; shelf++) {
                int s = shelf;
                refused("want(" + s + ")", STATE, () -> blockedAt(ring(3, 0, 1, 2), s), c -> c.want(s));
                due("want(" + s + ") beside one", blockedAt(ring(3, 0, 1, 2), (s + 1) % 3).want(s), 1);
            }
            CarouselRows c = blockedAt(ring(3, 0, 1, 2), 1);
            c.blocked(1, false);
            due("want(1), no more blocked", c.want(1), 1);
        });
        test(4, "its shelf is blocked (the shelf, not its place)", () -> {
            CarouselRows c = blockedAt(ring(6, 1, 4), 1);
            c.move(1, 4);
            thrown("want(0), its blocked shelf moved", STATE, () -> c.want(0));
            due("want(1), its shelf at the blocked one's old place", c.want(1), 1);
        });
        wantTwice();
        wantNine();
    }

    private static void wantTwice() {
        test(4, "IllegalStateException: it is on the list", () -> {
            for (int unit = 0; unit < 3; unit++) {
                int u = unit;
                refused("want(" + u + ") again", STATE, () -> wanted(3, 0, 1, 1), c -> c.want(u));
            }
            CarouselRows c = wanted(4, 1, 2);
            fetch(c, 0);
            c.put(3, 0);
            thrown("want(0), back on another shelf, still on the list", STATE, () -> c.want(0));
            c.clear();
            due("want(0) behind clear()", c.want(0), 1);
        });
        test(4, "Terms: A LIST has units, each once", () -> {
            CarouselRows c = wanted(3, 2, 2);
            thrown("want(0)", STATE, () -> c.want(0));
            thrown("want(1)", STATE, () -> c.want(1));
            due("count(4)", c.count(4), 2);
            due("clear()", c.clear(), 2);
        });
    }

    private static void wantNine() {
        test(4, "UnsupportedOperationException: the list has eight", () -> {
            refused("want(8), the ninth", ROOM, CarouselRowsSentences::fullList, c -> c.want(8));
            refused("want(9), the ninth", ROOM, CarouselRowsSentences::fullList, c -> c.want(9));
        });
        test(4, "Terms: A LIST has up to eight units", () -> {
            CarouselRows c = fullList();
            due("count(4)", c.count(4), 8);
            thrown("want(8)", ROOM, () -> c.want(8));
            fetch(c, 0);
            thrown("want(8), one of eight fetched", ROOM, () -> c.want(8));
            due("clear()", c.clear(), 8);
            for (int unit = 1; unit <= 8; unit++) {
                due("want(" + unit + ") behind clear()", c.want(unit), unit);
            }
            thrown("want(9), the ninth again", ROOM, () -> c.want(9));
        });
        test(4, "Terms: REFUSALS, the first that holds", () -> {
            Supplier<CarouselRows> full = CarouselRowsSentences::fullList;
            refused("want(20): no unit, eight", ARGUMENT, full, c -> c.want(20));
            refused("want(-1): no unit, eight", ARGUMENT, full, c -> c.want(-1));
            refused("want(10): nowhere, eight", STATE, full, c -> c.want(10));
            refused("want(8): blocked, eight", STATE, () -> blockedAt(fullList(), 4), c -> c.want(8));
            refused("want(0): on the list, eight", STATE, full, c -> c.want(0));
            refused("want(7): on the list, eight", STATE, full, c -> c.want(7));
        });
    }

    // Promise 5: plan.

    private static void plan() {
        test(5, "A plan for the list: its turns", () -> {
            planned(wanted(12, 5), 6, 5, true, 5);
            planned(wanted(12, 5), 0, 5, false, 5);
            planned(wanted(12, 9, 5, 2), 6, 9, true, 2, 5, 9);
            CarouselRows c = wanted(12, 9, 5, 2);
            changesNothing("plan(6) behind plan(6)", () -> {
                CarouselRows p = wanted(12, 9, 5, 2);
                p.plan(6);
                return p;
            }, p -> p.plan(6));
            c.plan(6);
            due("count(1), nothing is turned", c.count(1), 0);
            due("count(2), nothing is turned", c.count(2), 0);
            due("count(4), the list stays", c.count(4), 3);
        });
        test(5, "Terms: from the place in front to the first one, from there to the next one, and so on", () -> {
            CarouselRows c = wanted(12, 9, 5, 2);
            c.turn(6);
            planned(c, 6, 9, true, 5, 2, 9);
            planned(c, 0, 9, false, 5, 2, 9);
            c.turn(9);
            planned(c, 6, 7, true, 9, 5, 2);
        });
        test(5, "(0 .. 6)", () -> {
            for (int most = 0; most <= 6; most++) {
                due("plan(" + most + ")", wanted(8, 3).plan(most), 3);
            }
            for (int most : new int[] {LEAST, -6, -1, 7, 8, GREATEST}) {
                refused("plan(" + most + ")", ARGUMENT, () -> wanted(8, 3, 5), c -> c.plan(most));
                refused("plan(" + most + ") without units", ARGUMENT, () -> ring(8), c -> c.plan(most));
            }
        });
        test(5, "(Without units: 0.)", () -> {
            for (int most = 0; most <= 6; most++) {
                planned(new CarouselRows(0), most, 0, true);
                planned(new CarouselRows(7), most, 0, true);
                CarouselRows c = wanted(7, 3, 5);
                c.turn(4);
                c.plan(most);
                c.clear();
                planned(c, most, 0, true);
            }
        });
        test(5, "Terms: EXACT, for at most so many shelves as are told", () -> {
            for (int n = 0; n <= 8; n++) {
                for (int most = 0; most <= 6; most++) {
                    CarouselRows c = wanted(24, Arrays.copyOf(new int[] {0, 1, 2, 7, 8, 9, 22, 6}, n));
                    c.plan(most);
                    due("exact(), " + n + " shelves, plan(" + most + ")", c.exact(), n <= most);
                }
            }
        });
        planShelves();
        planFewest();
        planByRule();
        planRefused();
    }

    private static void planShelves() {
        test(5, "Terms: those on which its units lie, each once", () -> {
            planned(wanted(8, 5, 5, 5, 5, 3, 3, 3, 3), 6, 5, true, 3, 5);
            planned(wanted(8, 4, 4, 4), 1, 4, true, 4);
            CarouselRows some = ring(8, 1, 2, 3, 3);
            some.want(3);
            planned(some, 6, 3, true, 3);
        });
        test(5, "exact for at most so many shelves (shelves, not units)", () -> {
            CarouselRows c = wanted(8, 5, 5, 5, 5, 3, 3, 3, 3);
            planned(c, 2, 5, true, 3, 5);
            planned(c, 1, 5, false, 3, 5);
        });
        test(5, "Terms: at each a SHELF or, after a move, another one (a plan goes by places)", () -> {
            CarouselRows c = wanted(8, 1, 2);
            c.move(1, 4);
            planned(c, 6, 4, true, 2, 1);
            planned(c, 0, 4, false, 2, 1);
            c.move(2, 7);
            planned(c, 6, 4, true, 2, 1);
            c.move(1, 0);
            planned(c, 6, 1, true, 1, 2);
        });
        test(5, "A plan for the list (a unit that came back is planned where it lies now)", () -> {
            CarouselRows c = wanted(8, 2, 5);
            fetch(c, 0);
            c.put(7, 0);
            c.turn(0);
            planned(c, 6, 3, true, 7, 5);
            fetch(c, 1);
            c.put(7, 1);
            c.turn(0);
            planned(c, 6, 1, true, 7);
        });
    }

    private static void planFewest() {
        test(5, "Terms: the plan with the fewest turns", () -> {
            planned(wanted(10, 1, 3, 9), 3, 5, true, 9, 1, 3);
            planned(wanted(10, 1, 3, 9), 2, 7, false, 1, 3, 9);
            planned(wanted(12, 0, 1, 3, 4, 5, 11), 6, 7, true, 0, 11, 1, 3, 4, 5);
            planned(wanted(12, 0, 1, 3, 4, 5, 11), 5, 11, false, 0, 1, 3, 4, 5, 11);
            planned(wanted(24, 0, 1, 2, 7, 8, 22), 6, 12, true, 0, 22, 1, 2, 7, 8);
            planned(wanted(24, 0, 1, 2, 7, 8, 22), 5, 16, false, 0, 1, 2, 22, 7, 8);
        });
        test(5, "Terms: of such ones the first by its shelves' numbers", () -> {
            planned(wanted(6, 5, 1), 6, 3, true, 1, 5);
            planned(wanted(6, 1, 5), 6, 3, true, 1, 5);
            planned(wanted(6, 4, 0, 2), 6, 4, true, 0, 2, 4);
            planned(wanted(23, 12, 11), 6, 12, true, 11, 12);
        });
        test(5, "Terms: compared from the first on", () -> {
            planned(wanted(8, 2, 6, 7), 6, 6, true, 2, 7, 6);
            planned(wanted(6, 0, 1, 2, 5), 6, 4, true, 0, 5, 1, 2);
            planned(wanted(5, 0, 1, 3, 4), 6, 4, true, 0, 1, 3, 4);
            planned(wanted(16, 0, 1, 3, 6, 13, 15), 6, 12, true, 0, 13, 15, 1, 3, 6);
        });
        test(5, "Terms: the first by its shelves' numbers (not by their places)", () -> {
            planned(moved(wanted(6, 5, 1), 1, 5), 6, 3, true, 1, 5);
            planned(moved(wanted(6, 0, 2, 4), 2, 4), 6, 4, true, 0, 2, 4);
            planned(moved(wanted(5, 0, 1, 3, 4), 3, 4), 6, 4, true, 0, 1, 3, 4);
            planned(moved(wanted(6, 0, 1, 2, 5), 1, 5), 6, 4, true, 0, 1, 5, 2);
        });
        test(5, "Terms: EXACT (every list of up to six shelves in small rings)", () -> {
            for (int n = 1; n <= 9; n++) {
                for (int shelves = 0; shelves < 1 << n; shelves++) {
                    if (Integer.bitCount(shelves) <= 6) {
                        exactFrom(n, shelves, n <= 6 ? 0 : shelves % n, n <= 6 ? n - 1 : shelves % n);
                    }
                }
            }
        });
    }

    private static CarouselRows turned(CarouselRows c, int to) {
        c.turn(to);
        return c;
    }

    private static CarouselRows moved(CarouselRows c, int shelf, int other) {
        c.move(shelf, other);
        return c;
    }

    /** Shelf s lies at place (s * 3 + 1) mod n where 3 and n allow it, so numbers are not places. */
    private static CarouselRows mixedRing(int n, int[] shelves) {
        CarouselRows c = wanted(n, shelves);
        for (int place = 0; place < n; place++) {
            int due = mixedShelf(n, place);
            int there = 0;
            while (c.shelf(there, 0) != place) {
                there++;
            }
            if (there != due) {
                c.move(there, due);
            }
        }
        return c;
    }

    private static int mixedShelf(int n, int place) {
        return n % 3 == 0 ? n - 1 - place : (place * 3 + 1) % n;
    }

    private static int[] shelvesOf(int bits) {
        int[] shelves = new int[Integer.bitCount(bits)];
        int k = 0;
        for (int shelf = 0; shelf < 24; shelf++) {
            if ((bits >> shelf & 1) != 0) {
                shelves[k++] = shelf;
            }
        }
        return shelves;
    }

    private static void exactFrom(int n, int bits, int firstFront, int lastFront) {
        int[] shelves = shelvesOf(bits);
        int[] places = new int[n];
        for (int place = 0; place < n; place++) {
            places[mixedShelf(n, place)] = place;
        }
        for (int front = firstFront; front <= lastFront; front++) {
            CarouselRows c = turned(mixedRing(n, shelves), front);
            int[] best = firstOfFewest(shelves, places, front, n);
            planned(c, 6, turnsOf(best, places, front, n), true, best);
        }
    }

    private static int turnsOf(int[] order, int[] places, int front, int n) {
        int sum = 0;
        int from = front;
        for (int shelf : order) {
            sum += shorterWalk(from, places[shelf], n);
            from = places[shelf];
        }
        return sum;
    }

    /** All orders by rising numbers; a later one counts only with fewer turns. */
    private static int[] firstOfFewest(int[] rising, int[] places, int front, int n) {
        int[] order = rising.clone();
        int[] best = order.clone();
        int fewest = turnsOf(best, places, front, n);
        while (nextOrder(order)) {
            int turns = turnsOf(order, places, front, n);
            if (turns < fewest) {
                fewest = turns;
                best = order.clone();
            }
        }
        return best;
    }

    private static boolean nextOrder(int[] order) {
        int i = order.length - 2;
        while (i >= 0 && order[i] > order[i + 1]) {
            i--;
        }
        if (i < 0) {
            return false;
        }
        int j = order.length - 1;
        while (order[j] < order[i]) {
            j--;
        }
        swap(order, i, j);
        for (int a = i + 1, b = order.length - 1; a < b; a++, b--) {
            swap(order, a, b);
        }
        return true;
    }

    private static void swap(int[] row, int i, int j) {
        int kept = row[i];
        row[i] = row[j];
        row[j] = kept;
    }

    private static void planByRule() {
        test(5, "Terms: BY RULE else", () -> {
            planned(wanted(10, 1, 3, 9), 0, 7, false, 1, 3, 9);
            planned(wanted(24, 0, 1, 2, 7, 8, 9, 22), 6, 17, false, 0, 1, 2, 22, 7, 8, 9);
            planned(wanted(24, 0, 1, 2, 6, 7, 8, 9, 22), 6, 20, false, 0, 1, 2, 6, 7, 8, 9, 22);
            planned(wanted(24, 22, 9, 8, 7, 6, 2, 1, 0), 0, 20, false, 0, 1, 2, 6, 7, 8, 9, 22);
        });
        test(5, "Terms: nearest to the place at which the one before is", () -> {
            planned(wanted(12, 2, 5, 9), 0, 9, false, 2, 5, 9);
            planned(wanted(12, 11, 9, 2), 2, 8, false, 11, 9, 2);
        });
        test(5, "Terms: (the place in front at first)", () -> {
            CarouselRows c = wanted(12, 2, 5, 9);
            c.turn(6);
            planned(c, 0, 9, false, 5, 2, 9);
            c.turn(10);
            planned(c, 0, 8, false, 9, 5, 2);
        });
        test(5, "Terms: of equal ones the lowest number (the first shelf)", () -> {
            planned(wanted(8, 2, 6), 0, 6, false, 2, 6);
            planned(wanted(8, 6, 2), 0, 6, false, 2, 6);
            planned(moved(wanted(8, 2, 6), 2, 6), 0, 6, false, 2, 6);
            planned(turned(wanted(8, 2, 6), 4), 0, 6, false, 2, 6);
            planned(turned(moved(wanted(8, 2, 6), 2, 6), 4), 0, 6, false, 2, 6);
        });
        test(5, "Terms: of equal ones the lowest number (a later shelf)", () -> {
            planned(wanted(8, 1, 3, 7), 0, 7, false, 1, 3, 7);
            planned(moved(wanted(8, 1, 3, 7), 3, 7), 0, 7, false, 1, 3, 7);
            planned(wanted(6, 4, 2, 0), 2, 4, false, 0, 2, 4);
            planned(moved(wanted(6, 0, 2, 4), 2, 4), 2, 4, false, 0, 2, 4);
        });
        test(5, "Terms: BY RULE (every list of up to eight shelves in small rings)", () -> {
            for (int n = 1; n <= 10; n++) {
                for (int shelves = 1; shelves < 1 << n; shelves++) {
                    if (Integer.bitCount(shelves) <= 8) {
                        ruleFromOnePlace(n, shelves, shelves % n);
                    }
                }
            }
        });
    }

    private static void ruleFromOnePlace(int n, int bits, int front) {
        int[] shelves = shelvesOf(bits);
        CarouselRows c = turned(mixedRing(n, shelves), front);
        int[] places = new int[n];
        for (int place = 0; place < n; place++) {
            places[mixedShelf(n, place)] = place;
        }
        int[] order = new int[shelves.length];
        int left = bits;
        int from = front;
        for (int k = 0; k < order.length; k++) {
            int nearest = -1;
            for (int shelf = n - 1; shelf >= 0; shelf--) {
                if ((left >> shelf & 1) != 0 && (nearest < 0
                        || shorterWalk(from, places[shelf], n) <= shorterWalk(from, places[nearest], n))) {
                    nearest = shelf;
                }
            }
            order[k] = nearest;
            from = places[nearest];
            left &= ~(1 << nearest);
        }
        planned(c, 0, turnsOf(order, places, front, n), false, order);
    }

    /** Eight units on shelves 0 .. 7 are on the list, and planned by rule. */
    private static CarouselRows eightPlanned() {
        CarouselRows c = wanted(8, 0, 1, 2, 3, 4, 5, 6, 7);
        c.plan(6);
        return c;
    }

    private static void planRefused() {
        test(5, "IllegalStateException: a unit of it lies nowhere any more", () -> {
            for (int unit = 0; unit < 8; unit++) {
                int u = unit;
                for (int most = 0; most <= 6; most += 6) {
                    int m = most;
                    refused("plan(" + m + ") without unit " + u, STATE,
                            () -> fetched(eightPlanned(), u), c -> c.plan(m));
                }
            }
            CarouselRows only = wanted(4, 2);
            fetch(only, 0);
            thrown("plan(6), the only unit fetched", STATE, () -> only.plan(6));
            only.put(2, 0);
            due("plan(6), it came back", only.plan(6), 0);
        });
        test(5, "IllegalStateException: or its shelf is blocked", () -> {
            for (int shelf = 0; shelf < 8; shelf++) {
                int s = shelf;
                for (int most = 0; most <= 6; most += 6) {
                    int m = most;
                    refused("plan(" + m + ") with shelf " + s + " blocked", STATE,
                            () -> blockedAt(eightPlanned(), s), c -> c.plan(m));
                }
            }
            CarouselRows c = blockedAt(wanted(8, 2, 5), 5);
            thrown("plan(6), shelf 5 blocked", STATE, () -> c.plan(6));
            c.blocked(5, false);
            planned(c, 6, 5, true, 2, 5);
            c.blocked(3, true);
            planned(c, 6, 5, true, 2, 5);
        });
        test(5, "or its shelf is blocked (that onto which it came back, too)", () -> {
            CarouselRows c = blockedAt(wanted(8, 2, 5), 7);
            fetch(c, 0);
            c.put(7, 0);
            thrown("plan(6), unit 0 on blocked shelf 7", STATE, () -> c.plan(6));
        });
        test(5, "IllegalStateException (a refused plan leaves the latest one)", () -> {
            Supplier<CarouselRows> exact = () -> {
                CarouselRows c = wanted(10, 1, 3, 9);
                c.plan(3);
                return blockedAt(c, 3);
            };
            refused("plan(0)", STATE, exact, c -> c.plan(0));
            refused("plan(7)", ARGUMENT, exact, c -> c.plan(7));
        });
        test(5, "Terms: REFUSALS, the first that holds", () -> {
            refused("plan(7): blocked", ARGUMENT, () -> blockedAt(eightPlanned(), 0), c -> c.plan(7));
            refused("plan(-1): fetched", ARGUMENT, () -> fetched(eightPlanned(), 0), c -> c.plan(-1));
        });
        test(5, "A plan for the list (the document refuses no open door)", () -> {
            planned(open(wanted(8, 2, 5), 3), 6, 5, true, 2, 5);
        });
    }

    // Promise 6: at.

    private static void at() {
        test(6, "Shelf i of the latest plan", () -> {
            CarouselRows c = wanted(10, 1, 3, 9);
            int[][] plans = {{0, 1, 3, 9}, {6, 9, 1, 3}, {2, 1, 3, 9}, {3, 9, 1, 3}};
            for (int[] p : plans) {
                c.plan(p[0]);
                for (int i = 0; i < 3; i++) {
                    due("at(" + i + ") behind plan(" + p[0] + ")", c.at(i), p[i + 1]);
                }
            }
        });
        test(6, "-1 if it has not so many", () -> {
            for (int n = 0; n <= 8; n++) {
                CarouselRows c = wanted(24, Arrays.copyOf(new int[] {4, 5, 6, 7, 8, 9, 10, 11}, n));
                c.plan(6);
                if (n > 0) {
                    due("at(" + (n - 1) + "), the last of " + n, c.at(n - 1), n + 3);
                }
                for (int i : new int[] {n, n + 1, 8, 9, 24, GREATEST}) {
                    due("at(" + i + ") of " + n, c.at(i), -1);
                }
            }
        });
        test(6, "-1 if it has not so many (below 0)", () -> {
            CarouselRows c = wanted(8, 2, 3);
            c.plan(6);
            for (int i : new int[] {-1, -2, -8, LEAST}) {
                due("at(" + i + ")", c.at(i), -1);
            }
        });
        test(6, "-1 if it has not so many (the latest is shorter than the one before)", () -> {
            CarouselRows c = wanted(8, 1, 3);
            c.plan(6);
            fetch(c, 1);
            c.put(1, 1);
            c.plan(6);
            due("at(0)", c.at(0), 1);
            due("at(1)", c.at(1), -1);
        });
        test(6, "-1 if there was none since the list was cleared", () -> {
            for (int most = 0; most <= 6; most += 6) {
                CarouselRows c = ring(8, 1, 3);
                due("at(0) of a new object", c.at(0), -1);
                c.want(0);
                c.want(1);
                due("at(0) behind want()", c.at(0), -1);
                c.plan(most);
                c.clear();
                due("at(0) behind clear()", c.at(0), -1);
                due("at(1) behind clear()", c.at(1), -1);
                c.want(1);
                due("at(0) behind want() again", c.at(0), -1);
                c.plan(most);
                due("at(0) behind a new plan", c.at(0), 3);
            }
        });
        test(6, "Shelf i of the latest plan (other calls leave it)", () -> {
            CarouselRows c = wanted(6, 1, 3);
            c.put(4, 9);
            c.plan(6);
            String plan = shelvesOfPlan(c);
            c.want(9);
            c.move(1, 5);
            fetch(c, 1);
            c.put(2, 1);
            c.blocked(3, true);
            c.days(3);
            thrown("plan(7)", ARGUMENT, () -> c.plan(7));
            due("the plan", shelvesOfPlan(c), plan);
            due("at(0)", c.at(0), 1);
        });
    }

    // Promise 7: exact.

    private static void exact() {
        test(7, "Whether the latest plan was exact", () -> {
            CarouselRows c = wanted(10, 1, 3, 9);
            int[] most = {3, 2, 6, 0, 4, 1, 5};
            for (int m : most) {
                c.plan(m);
                due("exact() behind plan(" + m + ") of three shelves", c.exact(), m >= 3);
                due("exact() asked again", c.exact(), m >= 3);
            }
        });
        test(7, "false before", () -> {
            due("exact() without places", new CarouselRows(0).exact(), false);
            due("exact() of a new object", new CarouselRows(6).exact(), false);
            due("exact() behind want()", wanted(6, 2).exact(), false);
            CarouselRows c = blockedAt(wanted(6, 2), 2);
            thrown("plan(6)", STATE, () -> c.plan(6));
            due("exact() behind a refused plan", c.exact(), false);
        });
        test(7, "and when the list is cleared", () -> {
            CarouselRows c = wanted(6, 2);
            c.plan(6);
            due("exact() behind plan(6)", c.exact(), true);
            c.clear();
            due("exact() behind clear()", c.exact(), false);
            c.plan(0);
            due("exact() of a plan without units", c.exact(), true);
            c.clear();
            due("exact() behind clear() of an empty list", c.exact(), false);
            c.want(0);
            due("exact() behind want()", c.exact(), false);
        });
        test(7, "Whether the latest plan was exact (other calls leave it)", () -> {
            CarouselRows c = wanted(6, 1, 3);
            c.put(4, 9);
            c.plan(2);
            c.want(9);
            c.turn(3);
            c.blocked(3, true);
            thrown("plan(0)", STATE, () -> c.plan(0));
            due("exact()", c.exact(), true);
        });
    }

    // Promise 8: clear.

    private static void clear() {
        test(8, "how many units it had", () -> {
            for (int n = 0; n <= 8; n++) {
                CarouselRows c = wanted(3, Arrays.copyOf(new int[] {0, 0, 0, 0, 2, 2, 2, 2}, n));
                due("clear() of " + n, c.clear(), n);
                due("clear() again", c.clear(), 0);
            }
            due("clear() without places", new CarouselRows(0).clear(), 0);
            due("clear(), one unit fetched", fetched(wanted(3, 0, 1), 1).clear(), 2);
        });
        test(8, "The list is cleared", () -> {
            CarouselRows c = wanted(6, 1, 3, 4);
            c.clear();
            due("count(4)", c.count(4), 0);
            due("plan(6)", c.plan(6), 0);
            due("want(2)", c.want(2), 1);
            due("want(0)", c.want(0), 2);
            planned(c, 6, 4, true, 1, 4);
        });
        test(8, "and the plan are cleared", () -> {
            CarouselRows c = wanted(6, 1, 3, 4);
            c.plan(6);
            c.clear();
            due("at(0)", c.at(0), -1);
            due("exact()", c.exact(), false);
        });
        test(8, "The list and the plan are cleared (all else stays)", () -> {
            Supplier<CarouselRows> used = () -> {
                CarouselRows c = ring(6, 1, 3, 4);
                use(c, 1, 2);
                c.move(0, 4);
                return open(blockedAt(c, 4), 2);
            };
            changesNothing("want(0), plan(6), clear()", used, c -> {
                c.want(0);
                c.plan(6);
                c.clear();
            });
            changesNothing("clear() of nothing", used, CarouselRows::clear);
        });
    }

    // Promise 9: pick.

    private static void pick() {
        test(9, "A unit is fetched at a station: true", () -> {
            for (int station = 0; station < 2; station++) {
                CarouselRows c = open(ring(4, 0, 0, 2), station + 1);
                due("pick(0, " + station + ")", c.pick(0, station), true);
                due("unit(0)", c.unit(0), -1);
                due("unit(1)", c.unit(1), 0);
                due("shelf(0, 1)", c.shelf(0, 1), 1);
                due("count(3)", c.count(3), 2);
                due("count(5)", c.count(5), 1);
                due("the door stays open: door()", c.door(station, true), true);
            }
        });
        test(9, "Terms: UNITS are 0 .. 19", () -> {
            CarouselRows c = open(ring(1, 0), 1);
            c.put(0, 19);
            due("pick(0, 0)", c.pick(0, 0), true);
            due("pick(19, 0)", c.pick(19, 0), true);
        });
        test(9, "Terms: each fetching adds 64 to a unit's count", () -> {
            CarouselRows c = open(ring(4, 0, 0), 1);
            for (int times = 1; times <= 5; times++) {
                c.pick(1, 0);
                due("learned(1)", c.learned(1), 64 * times);
                due("learned(0)", c.learned(0), 0);
                due("count(5)", c.count(5), times);
                c.put(0, 1);
            }
        });
        test(9, "false if it does not lie on the shelf in front", () -> {
            Supplier<CarouselRows> made = () -> open(fetched(ring(4, 0, 1, 0), 2), 3);
            int[] elsewhere = {1, 2, 3, 19};
            for (int unit : elsewhere) {
                due("pick(" + unit + ", 0)", made.get().pick(unit, 0), false);
                due("pick(" + unit + ", 1)", made.get().pick(unit, 1), false);
                changesNothing("pick(" + unit + ", 1)", made, c -> c.pick(unit, 1));
            }
        });
        test(9, "Terms: FETCHING a unit from the shelf in front takes it off (not twice)", () -> {
            CarouselRows c = open(ring(4, 0), 1);
            due("pick(0, 0)", c.pick(0, 0), true);
            due("pick(0, 0) again", c.pick(0, 0), false);
            due("learned(0)", c.learned(0), 64);
            due("count(5)", c.count(5), 1);
        });
        test(9, "the shelf in front (the one that is there after a move)", () -> {
            CarouselRows c = open(moved(ring(4, 0, 2), 0, 2), 1);
            due("pick(0, 0), its shelf moved away", c.pick(0, 0), false);
            due("pick(1, 0), its shelf came", c.pick(1, 0), true);
        });
        pickRefusedByNumbers();
        pickRefusedByState();
    }

    private static void pickRefusedByNumbers() {
        test(9, "IllegalArgumentException: no such unit", () -> {
            for (int unit : NO_UNITS) {
                refused("pick(" + unit + ", 0)", ARGUMENT, () -> open(ring(3, 0), 1), c -> c.pick(unit, 0));
            }
        });
        test(9, "IllegalArgumentException: no such station", () -> {
            for (int station : NO_STATIONS) {
                refused("pick(0, " + station + ")", ARGUMENT,
                        () -> open(ring(3, 0), 3), c -> c.pick(0, station));
            }
        });
        test(9, "ArithmeticException (the machine's own, asked first): the ring has no places", () -> {
            for (int doors = 0; doors <= 3; doors++) {
                int d = doors;
                for (int station : new int[] {0, 1, -1, 2}) {
                    for (int unit : new int[] {0, 19, -1, 20}) {
                        refused("pick(" + unit + ", " + station + ")", NO_PLACES,
                                () -> open(ring(0), d), c -> c.pick(unit, station));
                    }
                }
            }
            refused("pick(0, 0) of -1 places", NO_PLACES, () -> open(ring(-1), 3), c -> c.pick(0, 0));
        });
    }

    private static void pickRefusedByState() {
        test(9, "IllegalStateException: the station's door is closed", () -> {
            refused("pick(0, 0), none open", STATE, () -> ring(3, 0), c -> c.pick(0, 0));
            refused("pick(0, 1), none open", STATE, () -> ring(3, 0), c -> c.pick(0, 1));
            refused("pick(0, 0), door 1 open", STATE, () -> open(ring(3, 0), 2), c -> c.pick(0, 0));
            refused("pick(0, 1), door 0 open", STATE, () -> open(ring(3, 0), 1), c -> c.pick(0, 1));
            CarouselRows c = open(ring(3, 0), 3);
            c.door(0, false);
            thrown("pick(0, 0), door 0 closed again", STATE, () -> c.pick(0, 0));
            due("pick(0, 1), door 1 still open", c.pick(0, 1), true);
        });
        test(9, "IllegalStateException: the shelf in front is blocked", () -> {
            refused("pick(0, 0)", STATE, () -> open(blockedAt(ring(3, 0), 0), 3), c -> c.pick(0, 0));
            CarouselRows beside = open(blockedAt(ring(3, 0), 1), 1);
            due("pick(0, 0), another shelf blocked", beside.pick(0, 0), true);
            CarouselRows freed = open(blockedAt(ring(3, 0), 0), 1);
            freed.blocked(0, false);
            due("pick(0, 0), no more blocked", freed.pick(0, 0), true);
        });
        test(9, "the shelf in front is blocked (the shelf, not the place)", () -> {
            CarouselRows away = open(moved(blockedAt(ring(4, 0, 2), 0), 0, 2), 1);
            due("pick(1, 0), the blocked shelf moved away", away.pick(1, 0), true);
            CarouselRows came = open(moved(blockedAt(ring(4, 0, 2), 2), 0, 2), 1);
            thrown("pick(1, 0), the blocked shelf came", STATE, () -> came.pick(1, 0));
        });
        test(9, "Terms: REFUSALS, the first that holds", () -> {
            Supplier<CarouselRows> closed = () -> blockedAt(ring(3, 0, 1), 0);
            Supplier<CarouselRows> open = () -> open(blockedAt(ring(3, 0, 1), 0), 1);
            refused("pick(20, 0): no unit, closed", ARGUMENT, closed, c -> c.pick(20, 0));
            refused("pick(-1, 0): no unit, blocked", ARGUMENT, open, c -> c.pick(-1, 0));
            refused("pick(0, 2): no station, blocked", ARGUMENT, open, c -> c.pick(0, 2));
            refused("pick(1, 1): closed, unit elsewhere", STATE, () -> ring(3, 0, 1), c -> c.pick(1, 1));
            refused("pick(1, 0): blocked, unit elsewhere", STATE, open, c -> c.pick(1, 0));
            refused("pick(9, 0): blocked, unit nowhere", STATE, open, c -> c.pick(9, 0));
        });
    }

    // Promise 10: door.

    private static void door() {
        test(10, "whether it was open", () -> {
            for (int station = 0; station < 2; station++) {
                CarouselRows c = new CarouselRows(3);
                boolean[] set = {true, true, false, false, true, false};
                boolean was = false;
                for (boolean open : set) {
                    due("door(" + station + ", " + open + ")", c.door(station, open), was);
                    was = open;
                }
            }
        });
        test(10, "A station's door is open, or closed (its own alone)", () -> {
            CarouselRows c = new CarouselRows(3);
            c.door(0, true);
            due("door(1, true)", c.door(1, true), false);
            c.door(0, false);
            due("door(1, true) again", c.door(1, true), true);
            due("door(0, false)", c.door(0, false), false);
        });
        test(10, "Terms: There are two STATIONS with doors, 0 and 1, closed at first", () -> {
            for (int n : new int[] {0, 1, 24}) {
                CarouselRows c = new CarouselRows(n);
                due("door(0, false) of " + n + " places", c.door(0, false), false);
                due("door(1, false) of " + n + " places", c.door(1, false), false);
                due("door(0, true) of " + n + " places", c.door(0, true), false);
                due("door(1, true) of " + n + " places", c.door(1, true), false);
            }
        });
        test(10, "IllegalArgumentException", () -> {
            for (int station : NO_STATIONS) {
                refused("door(" + station + ", true)", ARGUMENT, () -> ring(3), c -> c.door(station, true));
                refused("door(" + station + ", false)", ARGUMENT,
                        () -> open(ring(3), 3), c -> c.door(station, false));
                refused("door(" + station + ", true) without places", ARGUMENT,
                        () -> ring(0), c -> c.door(station, true));
            }
        });
    }

    // Promise 11: move.

    private static void move() {
        test(11, "Two shelves change their places", () -> {
            CarouselRows c = new CarouselRows(8);
            c.move(1, 6);
            due("shelf(1, 0)", c.shelf(1, 0), 6);
            due("shelf(6, 0)", c.shelf(6, 0), 1);
            c.move(6, 0);
            due("shelf(6, 0)", c.shelf(6, 0), 0);
            due("shelf(0, 0)", c.shelf(0, 0), 1);
            due("shelf(1, 0), not asked", c.shelf(1, 0), 6);
            c.move(0, 7);
            c.move(7, 0);
            due("shelf(0, 0), moved forth and back", c.shelf(0, 0), 1);
            due("shelf(7, 0), moved forth and back", c.shelf(7, 0), 7);
        });
        test(11, "with all that lies on them", () -> {
            CarouselRows c = blockedAt(ring(8, 1, 1, 6), 1);
            use(c, 2, 1);
            c.turn(0);
            c.move(1, 6);
            due("shelf(1, 1)", c.shelf(1, 1), 2);
            due("shelf(6, 1)", c.shelf(6, 1), 1);
            due("shelf(1, 2)", c.shelf(1, 2), 1);
            due("shelf(6, 2)", c.shelf(6, 2), 0);
            due("shelf(6, 4)", c.shelf(6, 4), 64);
            due("unit(0)", c.unit(0), 1);
            due("unit(2)", c.unit(2), 6);
            due("rest()", c.rest(), 1);
        });
        test(11, "Two shelves change their places (the ring is not turned)", () -> {
            CarouselRows c = moved(ring(8), 0, 3);
            due("count(1)", c.count(1), 0);
            due("count(2)", c.count(2), 0);
            due("shelf(3, 3), in front now", c.shelf(3, 3), 0);
            due("shelf(0, 3)", c.shelf(0, 3), 3);
        });
        test(11, "the distance of these", () -> {
            for (int n = 2; n <= 24; n++) {
                for (int a = 0; a < n; a++) {
                    CarouselRows c = new CarouselRows(n);
                    int at = a;
                    for (int b = 0; b < n; b++) {
                        if (a != b) {
                            int other = c.shelf(b, 0);
                            due("move(" + a + ", " + b + ") of " + n, c.move(a, b), shorterWalk(at, other, n));
                            at = other;
                        }
                    }
                }
            }
        });
        test(11, "the distance of these (of the places, not of the numbers)", () -> {
            CarouselRows c = new CarouselRows(12);
            due("move(1, 7)", c.move(1, 7), 6);
            due("move(1, 2), at 7 and 2", c.move(1, 2), 5);
            due("move(7, 0), at 1 and 0", c.move(7, 0), 1);
            due("move(11, 7), at 11 and 0", c.move(11, 7), 1);
        });
        moveRefused();
    }

    private static void moveRefused() {
        test(11, "Terms: NoSuchElementException: a shelf that there is not", () -> {
            for (int no : new int[] {LEAST, -1, 4, 5, 24, GREATEST}) {
                refused("move(" + no + ", 1)", ELEMENT, () -> ring(4, 1, 3), c -> c.move(no, 1));
                refused("move(1, " + no + ")", ELEMENT, () -> ring(4, 1, 3), c -> c.move(1, no));
            }
            refused("move(0, 1) without places", ELEMENT, () -> ring(0), c -> c.move(0, 1));
            refused("move(0, 1) of one place", ELEMENT, () -> ring(1), c -> c.move(0, 1));
        });
        test(11, "IllegalStateException: a door is open", () -> {
            for (int doors = 1; doors <= 3; doors++) {
                int d = doors;
                refused("move(1, 3), doors " + d, STATE, () -> open(ring(4, 1, 3), d), c -> c.move(1, 3));
            }
            CarouselRows c = open(ring(4), 3);
            c.door(1, false);
            thrown("move(1, 3), door 0 still open", STATE, () -> c.move(1, 3));
            c.door(0, false);
            due("move(1, 3), both closed", c.move(1, 3), 2);
        });
        test(11, "IllegalStateException: or they are the same", () -> {
            for (int shelf = 0; shelf < 4; shelf++) {
                int s = shelf;
                refused("move(" + s + ", " + s + ")", STATE, () -> ring(4, 1, 3), c -> c.move(s, s));
            }
            refused("move(0, 0) of one place", STATE, () -> ring(1), c -> c.move(0, 0));
            refused("move(1, 1) with an open door", STATE, () -> open(ring(4), 1), c -> c.move(1, 1));
        });
        test(11, "they are the same (by their numbers: one at the other's old place is another)", () -> {
            CarouselRows c = moved(ring(4), 1, 3);
            due("move(1, 3) back", c.move(1, 3), 2);
            due("shelf(1, 0)", c.shelf(1, 0), 1);
        });
        test(11, "Terms: REFUSALS, the first that holds", () -> {
            refused("move(4, 4): no shelf, the same", ELEMENT, () -> ring(4), c -> c.move(4, 4));
            refused("move(-1, -1): no shelf, the same", ELEMENT, () -> ring(4), c -> c.move(-1, -1));
            refused("move(4, 1): no shelf, open", ELEMENT, () -> open(ring(4), 1), c -> c.move(4, 1));
            refused("move(1, -1): no shelf, open", ELEMENT, () -> open(ring(4), 2), c -> c.move(1, -1));
            refused("move(0, 0) without places", ELEMENT, () -> open(ring(0), 3), c -> c.move(0, 0));
        });
        test(11, "Two shelves change their places (the document refuses no blocked ones)", () -> {
            CarouselRows c = blockedAt(blockedAt(ring(4), 1), 3);
            due("move(1, 3)", c.move(1, 3), 2);
        });
    }

    // Promise 12: blocked.

    private static void blocked() {
        test(12, "A shelf is blocked, or not: whether it was", () -> {
            for (int shelf = 0; shelf < 4; shelf++) {
                CarouselRows c = ring(4, 1);
                boolean[] set = {false, true, true, false, false, true, false};
                boolean was = false;
                for (boolean on : set) {
                    due("blocked(" + shelf + ", " + on + ")", c.blocked(shelf, on), was);
                    due("shelf(" + shelf + ", 2)", c.shelf(shelf, 2), on ? 1 : 0);
                    was = on;
                }
            }
        });
        test(12, "A shelf is blocked (it alone)", () -> {
            CarouselRows c = ring(24);
            c.blocked(0, true);
            c.blocked(23, true);
            for (int shelf = 0; shelf < 24; shelf++) {
                due("shelf(" + shelf + ", 2)", c.shelf(shelf, 2), shelf % 23 == 0 ? 1 : 0);
            }
        });
        test(12, "A shelf is blocked (the shelf, not its place)", () -> {
            CarouselRows c = moved(blockedAt(ring(4), 1), 1, 3);
            due("blocked(1, true)", c.blocked(1, true), true);
            due("blocked(3, true)", c.blocked(3, true), false);
        });
        test(12, "A shelf is blocked (the document refuses no open door)", () -> {
            CarouselRows c = open(ring(4), 3);
            due("blocked(0, true)", c.blocked(0, true), false);
            due("blocked(0, false)", c.blocked(0, false), true);
        });
        test(12, "A shelf is blocked, or not (its units stay, and stay on the list)", () -> {
            CarouselRows c = wanted(4, 2, 2, 1);
            c.blocked(2, true);
            due("unit(0)", c.unit(0), 2);
            due("shelf(2, 1)", c.shelf(2, 1), 2);
            due("count(4)", c.count(4), 3);
        });
        test(12, "NoSuchElementException: a shelf that there is not", () -> {
            for (int no : new int[] {LEAST, -1, 4, 5, 24, GREATEST}) {
                refused("blocked(" + no + ", true)", ELEMENT, () -> ring(4, 1), c -> c.blocked(no, true));
                refused("blocked(" + no + ", false)", ELEMENT, () -> ring(4, 1), c -> c.blocked(no, false));
            }
            refused("blocked(0, true) without places", ELEMENT, () -> ring(0), c -> c.blocked(0, true));
            refused("blocked(24, true) of 24 places", ELEMENT, () -> ring(24), c -> c.blocked(24, true));
        });
    }

    // Promise 13: days.

    /** Unit 0 was fetched three times and lies on its shelf, unit 19 once and lies nowhere. */
    private static CarouselRows usedUnits() {
        CarouselRows c = ring(4, 2);
        c.put(3, 19);
        use(c, 0, 3);
        return fetched(c, 19);
    }

    private static void days() {
        test(13, "So many days pass (0 .. 30)", () -> {
            for (int n = 0; n <= 30; n++) {
                CarouselRows c = usedUnits();
                c.days(n);
                due("learned(0), 192, behind days(" + n + ")", c.learned(0), n > 8 ? 0 : 192 / (1 << n));
                due("learned(19), 64, behind days(" + n + ")", c.learned(19), n > 7 ? 0 : 64 / (1 << n));
            }
        });
        test(13, "So many days pass (as one by one)", () -> {
            for (int n = 0; n <= 30; n++) {
                int days = n;
                CarouselRows c = usedUnits();
                c.days(days);
                CarouselRows byOne = usedUnits();
                for (int day = 0; day < days; day++) {
                    byOne.days(1);
                }
                due("days(" + days + ")", seen(c), seen(byOne));
            }
        });
        test(13, "So many days pass (0: nothing falls)", () -> {
            changesNothing("days(0)", CarouselRowsSentences::usedUnits, c -> c.days(0));
        });
        test(13, "IllegalArgumentException", () -> {
            for (int n : new int[] {LEAST, -30, -1, 31, 32, 33, 64, GREATEST}) {
                refused("days(" + n + ")", ARGUMENT, CarouselRowsSentences::usedUnits, c -> c.days(n));
            }
            refused("days(31) without places", ARGUMENT, () -> ring(0), c -> c.days(31));
        });
        countsFall();
    }

    private static void countsFall() {
        test(13, "Terms: with each day counts are halved", () -> {
            CarouselRows c = usedUnits();
            int[] due = {96, 48, 24, 12, 6, 3, 1, 0, 0};
            for (int count : due) {
                c.days(1);
                due("learned(0)", c.learned(0), count);
            }
        });
        test(13, "Terms: (rests are dropped)", () -> {
            CarouselRows c = usedUnits();
            c.days(6);
            due("learned(0)", c.learned(0), 3);
            due("learned(19)", c.learned(19), 1);
            c.days(1);
            due("learned(0), half of 3", c.learned(0), 1);
            due("learned(19), half of 1", c.learned(19), 0);
            use(c, 0, 1);
            due("learned(0), 1 and 64", c.learned(0), 65);
            c.days(1);
            due("learned(0), half of 65", c.learned(0), 32);
        });
        test(13, "So many days pass (only counts fall)", () -> {
            CarouselRows c = wanted(4, 2, 3);
            c.plan(6);
            fetch(c, 1);
            c.days(30);
            due("at(0)", c.at(0), 3);
            due("exact()", c.exact(), true);
            due("count(1)", c.count(1), 3);
            due("count(2)", c.count(2), 1);
            due("count(3)", c.count(3), 1);
            due("count(4)", c.count(4), 2);
            due("count(5)", c.count(5), 1);
        });
    }

    // Promise 14: learned.

    private static void learned() {
        test(14, "The count of a unit", () -> {
            CarouselRows c = usedUnits();
            due("learned(0), fetched three times", c.learned(0), 192);
            due("learned(19), that lies nowhere", c.learned(19), 64);
            due("learned(1), never put", c.learned(1), 0);
            c.put(0, 1);
            due("learned(1), never fetched", c.learned(1), 0);
            c.put(1, 19);
            due("learned(19), that came back", c.learned(19), 64);
        });
        test(14, "Terms: UNITS are 0 .. 19", () -> {
            CarouselRows c = new CarouselRows(1);
            c.door(0, true);
            for (int unit = 0; unit < 20; unit++) {
                due("learned(" + unit + ")", c.learned(unit), 0);
                c.put(0, unit);
                c.pick(unit, 0);
                due("learned(" + unit + "), fetched", c.learned(unit), 64);
            }
        });
        test(14, "IllegalArgumentException", () -> {
            for (int unit : NO_UNITS) {
                refused("learned(" + unit + ")", ARGUMENT,
                        CarouselRowsSentences::usedUnits, c -> c.learned(unit));
                refused("learned(" + unit + ") without places", ARGUMENT, () -> ring(0), c -> c.learned(unit));
            }
        });
        test(14, "Terms: each fetching adds 64 to a unit's count (to what the days have left)", () -> {
            CarouselRows c = ring(2, 1);
            int[] due = {64, 96, 112, 120, 124, 126, 127, 127};
            for (int count : due) {
                use(c, 0, 1);
                due("learned(0)", c.learned(0), count);
                c.days(1);
            }
        });
    }

    // Promise 15: rest.

    private static void rest() {
        test(15, "-1 if the ring has none", () -> {
            due("rest() of 0 places", new CarouselRows(0).rest(), -1);
            due("rest() of -1 places", new CarouselRows(-1).rest(), -1);
            due("rest() of one place", new CarouselRows(1).rest(), 0);
        });
        test(15, "Terms: the shelf with the greatest sum of its units' counts", () -> {
            CarouselRows c = ring(8, 3, 5, 5, 5, 7);
            use(c, 0, 2);
            due("rest(), 128 on shelf 3", c.rest(), 3);
            use(c, 1, 1);
            use(c, 2, 1);
            due("rest(), 128 on shelf 5, too", c.rest(), 3);
            use(c, 3, 1);
            due("rest(), 64 three times on shelf 5", c.rest(), 5);
            use(c, 4, 4);
            due("rest(), 256 on shelf 7, the last", c.rest(), 7);
            for (int shelf = 0; shelf < 24; shelf++) {
                CarouselRows one = ring(24, shelf, (shelf + 1) % 24, (shelf + 23) % 24);
                use(one, 0, 2);
                use(one, 1, 1);
                use(one, 2, 1);
                due("rest(), 128 on shelf " + shelf + " between 64 and 64", one.rest(), shelf);
            }
        });
        test(15, "Terms: the greatest sum (not the most units, and from a difference of 1 on)", () -> {
            CarouselRows c = ring(8, 1, 1, 1, 1, 6, 4);
            use(c, 5, 1);
            c.days(6);
            due("rest(), 1 on shelf 4", c.rest(), 4);
            use(c, 4, 1);
            use(c, 0, 1);
            use(c, 5, 1);
            due("rest(), 64, 65 and 64", c.rest(), 4);
        });
        test(15, "Terms: (those that lie on it)", () -> {
            CarouselRows c = ring(8, 3, 5);
            use(c, 0, 3);
            use(c, 1, 1);
            due("rest()", c.rest(), 3);
            fetch(c, 0);
            due("rest(), unit 0 fetched", c.rest(), 5);
            c.put(6, 0);
            due("rest(), unit 0 on another shelf", c.rest(), 6);
        });
        restTies();
        restBlocked();
    }

    private static void restTies() {
        test(15, "Terms: of equal ones the lowest number", () -> {
            due("rest(), all 0", new CarouselRows(8).rest(), 0);
            CarouselRows c = ring(8, 6, 2);
            use(c, 0, 1);
            due("rest(), 64 on shelf 6", c.rest(), 6);
            use(c, 1, 1);
            due("rest(), 64 on shelf 2, too", c.rest(), 2);
            c.days(7);
            due("rest(), all 0 again", c.rest(), 0);
        });
        test(15, "Terms: REST: the place of the shelf (the lowest shelf's, not the lowest place)", () -> {
            CarouselRows none = moved(ring(8), 0, 5);
            due("rest(), all 0, shelf 0 at 5", none.rest(), 5);
            CarouselRows c = ring(8, 6, 2);
            use(c, 0, 1);
            use(c, 1, 1);
            c.move(2, 6);
            due("rest(), shelf 2 at 6", c.rest(), 6);
            c.move(2, 0);
            due("rest(), shelf 2 at 0", c.rest(), 0);
        });
        test(15, "The place to rest at (wherever the front is, and nothing turns)", () -> {
            Supplier<CarouselRows> used = () -> {
                CarouselRows c = ring(8, 6, 2);
                use(c, 0, 1);
                c.turn(3);
                return c;
            };
            due("rest()", used.get().rest(), 6);
            changesNothing("rest()", used, CarouselRows::rest);
            due("rest() with open doors", open(used.get(), 3).rest(), 6);
        });
    }

    private static void restBlocked() {
        test(15, "Terms: blocked ones, too", () -> {
            CarouselRows c = ring(8, 6, 2);
            use(c, 0, 2);
            use(c, 1, 1);
            c.blocked(6, true);
            due("rest(), shelf 6 blocked", c.rest(), 6);
            due("rest(), all 0, shelf 0 blocked", blockedAt(ring(8), 0).rest(), 0);
            due("rest(), one place, blocked", blockedAt(ring(1), 0).rest(), 0);
        });
    }

    // Promise 16: shelf.

    private static void shelf() {
        test(16, "Of a shelf 0 its place", () -> {
            CarouselRows c = moved(moved(ring(10), 4, 9), 9, 0);
            int[] due = {4, 1, 2, 3, 9, 5, 6, 7, 8, 0};
            for (int shelf = 0; shelf < 10; shelf++) {
                due("shelf(" + shelf + ", 0)", c.shelf(shelf, 0), due[shelf]);
            }
            c.turn(5);
            due("shelf(4, 0) behind a turn", c.shelf(4, 0), 9);
        });
        test(16, "1 how many units", () -> {
            CarouselRows c = ring(4, 0, 0, 0, 0, 3, 3, 1);
            int[] due = {4, 1, 0, 2};
            for (int shelf = 0; shelf < 4; shelf++) {
                due("shelf(" + shelf + ", 1)", c.shelf(shelf, 1), due[shelf]);
            }
            fetch(c, 2);
            due("shelf(0, 1), one fetched", c.shelf(0, 1), 3);
            fetch(c, 6);
            due("shelf(1, 1), the only one fetched", c.shelf(1, 1), 0);
        });
        test(16, "2 whether it is blocked", () -> {
            CarouselRows c = blockedAt(ring(4), 3);
            due("shelf(3, 2)", c.shelf(3, 2), 1);
            due("shelf(0, 2)", c.shelf(0, 2), 0);
            c.move(0, 3);
            due("shelf(3, 2), moved", c.shelf(3, 2), 1);
            due("shelf(0, 2), moved", c.shelf(0, 2), 0);
            c.blocked(3, false);
            due("shelf(3, 2), no more", c.shelf(3, 2), 0);
        });
        shelfDistance();
        shelfCounts();
        shelfRefused();
    }

    private static void shelfDistance() {
        test(16, "3 the distance of its place from that in front", () -> {
            for (int n = 1; n <= 24; n++) {
                for (int front = 0; front < n; front++) {
                    CarouselRows c = new CarouselRows(n);
                    c.turn(front);
                    for (int shelf = 0; shelf < n; shelf++) {
                        due("shelf(" + shelf + ", 3) from " + front + " of " + n,
                                c.shelf(shelf, 3), shorterWalk(front, shelf, n));
                    }
                }
            }
        });
        test(16, "3 the distance of its place (of the place, not of the number)", () -> {
            CarouselRows c = moved(ring(10), 2, 9);
            due("shelf(2, 3) at 9", c.shelf(2, 3), 1);
            due("shelf(9, 3) at 2", c.shelf(9, 3), 2);
            c.turn(9);
            due("shelf(2, 3) in front", c.shelf(2, 3), 0);
        });
    }

    private static void shelfCounts() {
        test(16, "4 the sum of its units' counts", () -> {
            CarouselRows c = ring(6, 4, 4, 4, 1);
            use(c, 0, 1);
            use(c, 1, 2);
            use(c, 3, 5);
            due("shelf(4, 4)", c.shelf(4, 4), 192);
            due("shelf(1, 4)", c.shelf(1, 4), 320);
            due("shelf(0, 4)", c.shelf(0, 4), 0);
            fetch(c, 1);
            due("shelf(4, 4), one fetched", c.shelf(4, 4), 64);
            c.put(1, 1);
            due("shelf(1, 4), it came here", c.shelf(1, 4), 512);
            c.days(2);
            due("shelf(1, 4), two days", c.shelf(1, 4), 128);
            c.blocked(1, true);
            due("shelf(1, 4), blocked", c.shelf(1, 4), 128);
        });
        test(16, "4 the sum of its units' counts (each count's rest is dropped, not the sum's)", () -> {
            CarouselRows c = ring(6, 4, 4);
            use(c, 0, 1);
            use(c, 1, 1);
            c.days(6);
            due("shelf(4, 4), 1 and 1", c.shelf(4, 4), 2);
            c.days(1);
            due("shelf(4, 4), 0 and 0", c.shelf(4, 4), 0);
        });
    }

    private static void shelfRefused() {
        test(16, "NoSuchElementException: a shelf that there is not", () -> {
            for (int what = 0; what <= 4; what++) {
                int w = what;
                for (int no : new int[] {LEAST, -1, 4, 5, 24, GREATEST}) {
                    refused("shelf(" + no + ", " + w + ")", ELEMENT, () -> ring(4, 1), c -> c.shelf(no, w));
                }
                refused("shelf(0, " + w + ") of 0 places", ELEMENT, () -> ring(0), c -> c.shelf(0, w));
                refused("shelf(24, " + w + ") of 24 places", ELEMENT, () -> ring(24), c -> c.shelf(24, w));
            }
        });
        test(16, "IllegalArgumentException", () -> {
            for (int what : new int[] {LEAST, -1, 5, 6, GREATEST}) {
                refused("shelf(0, " + what + ")", ARGUMENT, () -> ring(4, 1), c -> c.shelf(0, what));
                refused("shelf(3, " + what + ")", ARGUMENT, () -> ring(4, 1), c -> c.shelf(3, what));
            }
        });
        test(16, "Terms: REFUSALS, the first that holds", () -> {
            refused("shelf(4, 5): no shelf, no what", ELEMENT, () -> ring(4), c -> c.shelf(4, 5));
            refused("shelf(-1, -1): no shelf, no what", ELEMENT, () -> ring(4), c -> c.shelf(-1, -1));
            refused("shelf(0, 5) without places", ELEMENT, () -> ring(0), c -> c.shelf(0, 5));
        });
    }

    // Promise 17: unit.

    private static void unit() {
        test(17, "The shelf of a unit", () -> {
            CarouselRows c = ring(5, 4, 0, 4);
            due("unit(0)", c.unit(0), 4);
            due("unit(1), on shelf 0", c.unit(1), 0);
            due("unit(2)", c.unit(2), 4);
            c.move(4, 1);
            due("unit(0), its shelf moved", c.unit(0), 4);
            c.turn(3);
            due("unit(1) behind a turn", c.unit(1), 0);
        });
        test(17, "-1 if it lies nowhere", () -> {
            CarouselRows c = ring(5, 4, 0);
            due("unit(2), never put", c.unit(2), -1);
            fetch(c, 0);
            due("unit(0), fetched", c.unit(0), -1);
            c.put(1, 0);
            due("unit(0), came back", c.unit(0), 1);
            due("unit(0) without places", new CarouselRows(0).unit(0), -1);
        });
        test(17, "Terms: UNITS are 0 .. 19", () -> {
            CarouselRows c = new CarouselRows(5);
            for (int unit = 0; unit < 20; unit++) {
                due("unit(" + unit + ")", c.unit(unit), -1);
                c.put(unit / 4, unit);
                due("unit(" + unit + "), put", c.unit(unit), unit / 4);
            }
        });
        test(17, "IllegalArgumentException", () -> {
            for (int unit : NO_UNITS) {
                refused("unit(" + unit + ")", ARGUMENT, () -> ring(5, 4, 0), c -> c.unit(unit));
                refused("unit(" + unit + ") without places", ARGUMENT, () -> ring(0), c -> c.unit(unit));
            }
        });
    }

    // Promise 18: count.

    private static void count() {
        test(18, "0 places", () -> {
            for (int n = 0; n <= 24; n++) {
                due("count(0) of " + n, new CarouselRows(n).count(0), n);
            }
        });
        test(18, "1 the place in front", () -> {
            CarouselRows c = ring(9, 3);
            due("count(1)", c.count(1), 0);
            c.turn(8);
            due("count(1) behind turn(8)", c.count(1), 8);
            c.move(8, 2);
            due("count(1) behind a move", c.count(1), 8);
            thrown("turn(9)", ARGUMENT, () -> c.turn(9));
            due("count(1) behind a refused turn", c.count(1), 8);
        });
        test(18, "(-1 without places)", () -> {
            due("count(1) of 0 places", new CarouselRows(0).count(1), -1);
            due("count(1) of -1 places", new CarouselRows(-1).count(1), -1);
            due("count(1) of one place", new CarouselRows(1).count(1), 0);
        });
        test(18, "2 all turns so far", () -> {
            CarouselRows c = ring(9, 3, 8);
            fetch(c, 0);
            due("count(2)", c.count(2), 3);
            fetch(c, 1);
            due("count(2), the shorter way", c.count(2), 7);
            c.move(0, 4);
            c.turn(8);
            due("count(2), a move and a turn to the front", c.count(2), 7);
            c.days(1);
            c.clear();
            due("count(2) behind days and clear", c.count(2), 7);
        });
        test(18, "3 units on shelves", () -> {
            CarouselRows c = new CarouselRows(5);
            for (int unit = 0; unit < 20; unit++) {
                due("count(3)", c.count(3), unit);
                c.put(unit / 4, unit);
            }
            due("count(3), all", c.count(3), 20);
            fetch(c, 19);
            due("count(3), one fetched", c.count(3), 19);
            c.blocked(0, true);
            due("count(3), blocked ones, too", c.count(3), 19);
        });
        countsOfLists();
    }

    private static void countsOfLists() {
        test(18, "4 units on the list", () -> {
            CarouselRows c = fullList();
            due("count(4)", c.count(4), 8);
            c.plan(6);
            due("count(4) behind plan()", c.count(4), 8);
            fetch(c, 3);
            due("count(4), a fetched one is still on it", c.count(4), 8);
            c.clear();
            due("count(4) behind clear()", c.count(4), 0);
        });
        test(18, "5 units fetched so far", () -> {
            CarouselRows c = ring(4, 0, 0, 1);
            due("count(5)", c.count(5), 0);
            use(c, 0, 3);
            due("count(5), one unit three times", c.count(5), 3);
            fetch(c, 2);
            due("count(5), another", c.count(5), 4);
            c.days(30);
            c.clear();
            due("count(5) behind days and clear", c.count(5), 4);
            c.door(0, true);
            due("pick(0, 0), elsewhere", c.pick(0, 0), false);
            due("count(5) behind a pick in vain", c.count(5), 4);
        });
        test(18, "-1 for another what", () -> {
            for (int what : new int[] {LEAST, -2, -1, 6, 7, GREATEST}) {
                due("count(" + what + ")", usedUnits().count(what), -1);
                due("count(" + what + ") without places", new CarouselRows(0).count(what), -1);
            }
        });
        test(18, "count (asking changes nothing)", () -> {
            for (int what = -1; what <= 6; what++) {
                int w = what;
                changesNothing("count(" + w + ")", CarouselRowsSentences::usedUnits, c -> c.count(w));
            }
        });
    }

    public static void main(String[] args) {
        newObject();
        put();
        turn();
        want();
        plan();
        at();
        exact();
        clear();
        pick();
        door();
        move();
        blocked();
        days();
        learned();
        rest();
        shelf();
        unit();
        count();
        if (wrong != 0) {
            System.out.println(wrong + " answers are not as due");
            System.exit(1);
        }
        System.out.println("each of " + tests + " sentences holds");
    }
}
