import java.util.NoSuchElementException;

/** For each promise of the document: ordinary inputs, the edges it names, and wrong inputs. */
public final class CarouselRowsPromises {
    private static final Class<?> ELEMENT = NoSuchElementException.class;
    private static final Class<?> ARGUMENT = IllegalArgumentException.class;
    private static final Class<?> STATE = IllegalStateException.class;
    private static final Class<?> ROOM = UnsupportedOperationException.class;
    private static final Class<?> NO_PLACES = ArithmeticException.class;

    private static int wrong = 0;

    private interface Call {
        void run();
    }

    private static void due(String what, int got, int want) {
        if (got != want) {
            wrong++;
            System.out.println(what + " answered " + got + ", due is " + want);
        }
    }

    private static void due(String what, boolean got, boolean want) {
        due(what, got ? 1 : 0, want ? 1 : 0);
    }

    private static void dueThrow(String what, Class<?> want, Call call) {
        Class<?> got = null;
        try {
            call.run();
        } catch (RuntimeException e) {
            got = e.getClass();
        }
        if (got != want) {
            wrong++;
            System.out.println(what + " threw " + got + ", due is " + want);
        }
    }

    /** A ring with unit i on shelf shelves[i]. */
    private static CarouselRows ring(int places, int... shelves) {
        CarouselRows c = new CarouselRows(places);
        for (int unit = 0; unit < shelves.length; unit++) {
            c.put(shelves[unit], unit);
        }
        return c;
    }

    private static void wantAll(CarouselRows c, int units) {
        for (int unit = 0; unit < units; unit++) {
            c.want(unit);
        }
    }

    private static void duePlan(String what, CarouselRows c, int most, int turns, boolean exact, int... shelves) {
        due(what + ": plan", c.plan(most), turns);
        due(what + ": exact", c.exact(), exact);
        for (int i = 0; i < shelves.length; i++) {
            due(what + ": at " + i, c.at(i), shelves[i]);
        }
        due(what + ": behind the last", c.at(shelves.length), -1);
    }

    private static void fetch(CarouselRows c, int unit) {
        c.turn(c.shelf(c.unit(unit), 0));
        c.door(0, true);
        due("fetch " + unit, c.pick(unit, 0), true);
        c.door(0, false);
    }

    private static void newObject() {
        int[][] made = {{Integer.MIN_VALUE, 0}, {-1, 0}, {0, 0}, {1, 1}, {7, 7}, {23, 23}, {24, 24}, {25, 24}, {Integer.MAX_VALUE, 24}};
        for (int[] m : made) {
            CarouselRows c = new CarouselRows(m[0]);
            due("1: places of " + m[0], c.count(0), m[1]);
            due("1: in front of " + m[0], c.count(1), m[1] == 0 ? -1 : 0);
            for (int what = 2; what <= 5; what++) {
                due("1: count " + what, c.count(what), 0);
            }
            for (int shelf = 0; shelf < m[1]; shelf++) {
                due("1: place of " + shelf, c.shelf(shelf, 0), shelf);
                due("1: units on " + shelf, c.shelf(shelf, 1), 0);
                due("1: blocked " + shelf, c.shelf(shelf, 2), 0);
                due("1: sum of " + shelf, c.shelf(shelf, 4), 0);
            }
            for (int unit = 0; unit < 20; unit++) {
                due("1: shelf of " + unit, c.unit(unit), -1);
                due("1: count of " + unit, c.learned(unit), 0);
            }
            dueThrow("1: shelf behind the last", ELEMENT, () -> c.shelf(m[1], 0));
            due("1: door 0", c.door(0, false), false);
            due("1: door 1", c.door(1, false), false);
            due("1: exact", c.exact(), false);
            due("1: at", c.at(0), -1);
        }
    }

    private static void put() {
        CarouselRows c = new CarouselRows(5);
        due("2: first", c.put(4, 0), 1);
        due("2: second", c.put(4, 19), 2);
        due("2: other shelf", c.put(0, 5), 1);
        due("2: third", c.put(4, 2), 3);
        due("2: fourth", c.put(4, 3), 4);
        dueThrow("2: fifth", ROOM, () -> c.put(4, 4));
        due("2: a refused unit lies nowhere", c.unit(4), -1);
        dueThrow("2: lies there", STATE, () -> c.put(4, 0));
        dueThrow("2: lies elsewhere", STATE, () -> c.put(1, 0));
        due("2: stays where it was", c.unit(0), 4);
        dueThrow("2: shelf -1", ELEMENT, () -> c.put(-1, 6));
        dueThrow("2: shelf 5", ELEMENT, () -> c.put(5, 6));
        dueThrow("2: unit -1", ARGUMENT, () -> c.put(0, -1));
        dueThrow("2: unit 20", ARGUMENT, () -> c.put(0, 20));
        dueThrow("2: shelf before unit", ELEMENT, () -> c.put(5, 20));
        dueThrow("2: shelf before lying", ELEMENT, () -> c.put(5, 0));
        dueThrow("2: unit before room", ARGUMENT, () -> c.put(4, 20));
        fetch(c, 2);
        due("2: room again, and a fetched unit comes back", c.put(4, 2), 4);
        c.blocked(1, true);
        c.door(0, true);
        due("2: onto a blocked shelf with an open door", c.put(1, 6), 1);
    }

    private static void turn() {
        CarouselRows even = new CarouselRows(6);
        due("3: up", even.turn(2), 2);
        due("3: same", even.turn(2), 0);
        due("3: as long both ways", even.turn(5), 3);
        due("3: over 0", even.turn(1), 2);
        due("3: down", even.turn(0), 1);
        due("3: down over 0", even.turn(5), 1);
        due("3: in front", even.count(1), 5);
        due("3: all turns", even.count(2), 9);
        dueThrow("3: place -1", ARGUMENT, () -> even.turn(-1));
        dueThrow("3: place 6", ARGUMENT, () -> even.turn(6));
        dueThrow("3: greatest", ARGUMENT, () -> even.turn(Integer.MAX_VALUE));
        dueThrow("3: least", ARGUMENT, () -> even.turn(Integer.MIN_VALUE));
        for (int station = 0; station < 2; station++) {
            int s = station;
            even.door(s, true);
            dueThrow("3: door " + s, STATE, () -> even.turn(0));
            dueThrow("3: door, same place " + s, STATE, () -> even.turn(5));
            dueThrow("3: place before door " + s, ARGUMENT, () -> even.turn(6));
            even.door(s, false);
        }
        due("3: refusals turn nothing", even.count(1), 5);
        due("3: refusals count nothing", even.count(2), 9);
        CarouselRows odd = new CarouselRows(7);
        due("3: odd up", odd.turn(3), 3);
        due("3: odd down", odd.turn(0), 3);
        due("3: odd over 0", odd.turn(4), 3);
        due("3: one place", new CarouselRows(1).turn(0), 0);
        CarouselRows none = new CarouselRows(0);
        dueThrow("3: no places", NO_PLACES, () -> none.turn(0));
        dueThrow("3: no places before range", NO_PLACES, () -> none.turn(-1));
        none.door(1, true);
        dueThrow("3: no places before door", NO_PLACES, () -> none.turn(0));
    }

    private static void want() {
        CarouselRows c = ring(9, 0, 1, 2, 3, 4, 5, 6, 7, 8, 8);
        dueThrow("4: unit -1", ARGUMENT, () -> c.want(-1));
        dueThrow("4: unit 20", ARGUMENT, () -> c.want(20));
        dueThrow("4: nowhere", STATE, () -> c.want(19));
        c.blocked(3, true);
        dueThrow("4: blocked", STATE, () -> c.want(3));
        c.blocked(3, false);
        for (int unit = 0; unit < 8; unit++) {
            due("4: want " + unit, c.want(unit), unit + 1);
            int u = unit;
            dueThrow("4: again " + unit, STATE, () -> c.want(u));
            due("4: on the list", c.count(4), unit + 1);
        }
        dueThrow("4: ninth", ROOM, () -> c.want(8));
        dueThrow("4: full, but on the list", STATE, () -> c.want(7));
        dueThrow("4: full, but nowhere", STATE, () -> c.want(19));
        dueThrow("4: full, but no unit", ARGUMENT, () -> c.want(20));
        c.blocked(8, true);
        dueThrow("4: full, but blocked", STATE, () -> c.want(9));
        due("4: still eight", c.count(4), 8);
        c.clear();
        due("4: after clear", c.want(7), 1);
        fetch(c, 7);
        dueThrow("4: fetched, on the list", STATE, () -> c.want(7));
        c.put(6, 7);
        dueThrow("4: back, still on the list", STATE, () -> c.want(7));
        c.clear();
        due("4: back, cleared", c.want(7), 1);
    }

    private static void plan() {
        CarouselRows empty = new CarouselRows(6);
        duePlan("5: without units", empty, 0, 0, true);
        duePlan("5: without places", new CarouselRows(0), 6, 0, true);
        dueThrow("5: -1", ARGUMENT, () -> empty.plan(-1));
        dueThrow("5: 7", ARGUMENT, () -> empty.plan(7));

        CarouselRows equal = ring(6, 2, 4, 0);
        wantAll(equal, 3);
        duePlan("5: equal ones by number", equal, 3, 4, true, 0, 2, 4);
        duePlan("5: equal ones by rule", equal, 2, 4, false, 0, 2, 4);

        // The rule: 1 (as near as 9), 3 (as near as 9), 9: 1 + 2 + 4; the fewest: 9, 1, 3: 1 + 2 + 2.
        CarouselRows rule = ring(10, 3, 9, 1);
        wantAll(rule, 3);
        duePlan("5: rule ties", rule, 2, 7, false, 1, 3, 9);
        duePlan("5: exact beats rule", rule, 3, 5, true, 9, 1, 3);
        duePlan("5: exact from six", rule, 6, 5, true, 9, 1, 3);
        duePlan("5: rule at 0", rule, 0, 7, false, 1, 3, 9);
        due("5: plans turn nothing", rule.count(2), 0);
        due("5: plans keep the front", rule.count(1), 0);

        CarouselRows shared = ring(8, 5, 5, 5, 5, 3, 3, 3, 3);
        wantAll(shared, 8);
        duePlan("5: each shelf once", shared, 2, 5, true, 3, 5);
        duePlan("5: each shelf once by rule", shared, 1, 5, false, 3, 5);

        CarouselRows moved = ring(8, 1, 2);
        moved.move(1, 4);
        wantAll(moved, 2);
        duePlan("5: places, not numbers", moved, 2, 4, true, 2, 1);
        moved.move(2, 7);
        duePlan("5: places after a move", moved, 2, 4, true, 2, 1);
        moved.turn(4);
        duePlan("5: from the front", moved, 2, 3, true, 1, 2);

        CarouselRows tie = ring(8, 1, 7);
        tie.move(1, 7);
        wantAll(tie, 2);
        duePlan("5: ties by shelf, not by place", tie, 2, 3, true, 1, 7);
        duePlan("5: rule ties by shelf, not by place", tie, 1, 3, false, 1, 7);

        CarouselRows eight = ring(24, 0, 3, 6, 9, 12, 15, 18, 21);
        wantAll(eight, 8);
        duePlan("5: eight by rule", eight, 6, 21, false, 0, 3, 6, 9, 12, 15, 18, 21);
        planRefused();
    }

    private static void planRefused() {
        CarouselRows c = ring(8, 2, 5, 6);
        wantAll(c, 2);
        duePlan("5: before", c, 6, 5, true, 2, 5);
        c.blocked(5, true);
        dueThrow("5: blocked", STATE, () -> c.plan(6));
        dueThrow("5: range before blocked", ARGUMENT, () -> c.plan(7));
        due("5: refused, the latest stays", c.at(1), 5);
        due("5: refused, still exact", c.exact(), true);
        c.blocked(5, false);
        c.blocked(6, true);
        duePlan("5: another shelf blocked", c, 1, 5, false, 2, 5);
        fetch(c, 0);
        dueThrow("5: fetched", STATE, () -> c.plan(0));
        due("5: refused, the latest by rule stays", c.at(0), 2);
        due("5: still by rule", c.exact(), false);
        c.put(7, 0);
        duePlan("5: lies elsewhere now", c, 6, 5, true, 5, 7);
        c.door(0, true);
        duePlan("5: with an open door", c, 6, 5, true, 5, 7);
    }

    private static void at() {
        CarouselRows c = ring(6, 1, 3, 4);
        due("6: before a plan", c.at(0), -1);
        c.want(0);
        c.want(1);
        due("6: wanted only", c.at(0), -1);
        c.plan(6);
        due("6: first", c.at(0), 1);
        due("6: second", c.at(1), 3);
        due("6: behind", c.at(2), -1);
        due("6: far behind", c.at(8), -1);
        due("6: below", c.at(-1), -1);
        due("6: least", c.at(Integer.MIN_VALUE), -1);
        due("6: greatest", c.at(Integer.MAX_VALUE), -1);
        c.want(2);
        due("6: wanted since", c.at(2), -1);
        c.move(1, 5);
        c.turn(3);
        c.blocked(3, true);
        due("6: first is kept", c.at(0), 1);
        due("6: second is kept", c.at(1), 3);
        c.clear();
        due("6: cleared", c.at(0), -1);
        c.plan(6);
        due("6: empty plan", c.at(0), -1);
    }

    private static void exact() {
        CarouselRows c = ring(24, 1, 2, 3, 4, 5, 6, 7);
        due("7: before", c.exact(), false);
        for (int n = 0; n <= 7; n++) {
            for (int most = 0; most <= 6; most++) {
                c.plan(most);
                due("7: " + n + " shelves, most " + most, c.exact(), n <= most);
            }
            if (n < 7) {
                c.want(n);
            }
        }
        c.clear();
        c.want(0);
        due("7: wanted only", c.exact(), false);
        c.plan(1);
        due("7: planned", c.exact(), true);
        c.want(1);
        due("7: wanted since", c.exact(), true);
        c.clear();
        due("7: cleared", c.exact(), false);
    }

    private static void clear() {
        CarouselRows c = ring(6, 1, 3, 4);
        due("8: empty", c.clear(), 0);
        wantAll(c, 3);
        c.plan(6);
        due("8: three", c.clear(), 3);
        due("8: list", c.count(4), 0);
        due("8: plan", c.at(0), -1);
        due("8: exact", c.exact(), false);
        due("8: again", c.clear(), 0);
        due("8: units stay on their shelves", c.count(3), 3);
        wantAll(c, 3);
        fetch(c, 0);
        due("8: a fetched unit stays on the list", c.clear(), 3);
    }

    private static void pick() {
        CarouselRows c = ring(6, 0, 0, 2);
        dueThrow("9: closed", STATE, () -> c.pick(0, 0));
        c.door(1, true);
        dueThrow("9: the other is open", STATE, () -> c.pick(0, 0));
        dueThrow("9: unit -1", ARGUMENT, () -> c.pick(-1, 1));
        dueThrow("9: unit 20", ARGUMENT, () -> c.pick(20, 1));
        dueThrow("9: station -1", ARGUMENT, () -> c.pick(0, -1));
        dueThrow("9: station 2", ARGUMENT, () -> c.pick(0, 2));
        dueThrow("9: unit before door", ARGUMENT, () -> c.pick(20, 0));
        due("9: elsewhere", c.pick(2, 1), false);
        due("9: nowhere", c.pick(3, 1), false);
        c.blocked(0, true);
        dueThrow("9: blocked", STATE, () -> c.pick(0, 1));
        dueThrow("9: blocked before false", STATE, () -> c.pick(2, 1));
        dueThrow("9: closed before false", STATE, () -> c.pick(2, 0));
        c.blocked(0, false);
        c.blocked(2, true);
        due("9: nothing was fetched", c.count(5), 0);
        due("9: nothing was counted", c.learned(0), 0);
        due("9: fetched", c.pick(0, 1), true);
        due("9: again", c.pick(0, 1), false);
        due("9: lies nowhere", c.unit(0), -1);
        due("9: the other stays", c.unit(1), 0);
        due("9: counted", c.learned(0), 64);
        due("9: so far", c.count(5), 1);
        due("9: on shelves", c.count(3), 2);
        c.put(0, 0);
        due("9: fetched again", c.pick(0, 1), true);
        due("9: counted again", c.learned(0), 128);
        due("9: so far again", c.count(5), 2);
        c.door(1, false);
        c.blocked(2, false);
        c.move(0, 2);
        c.door(0, true);
        due("9: another shelf is in front", c.pick(1, 0), false);
        due("9: that shelf's unit", c.pick(2, 0), true);
        pickWithoutPlaces();
    }

    private static void pickWithoutPlaces() {
        CarouselRows none = new CarouselRows(0);
        dueThrow("9: no places", NO_PLACES, () -> none.pick(0, 0));
        dueThrow("9: no places before unit", NO_PLACES, () -> none.pick(-1, 0));
        dueThrow("9: no places before station", NO_PLACES, () -> none.pick(0, 5));
        none.door(0, true);
        dueThrow("9: no places, open", NO_PLACES, () -> none.pick(0, 0));
    }

    private static void door() {
        CarouselRows c = new CarouselRows(3);
        due("10: opened", c.door(0, true), false);
        due("10: opened again", c.door(0, true), true);
        due("10: the other", c.door(1, true), false);
        due("10: closed", c.door(0, false), true);
        due("10: closed again", c.door(0, false), false);
        due("10: the other is open", c.door(1, true), true);
        dueThrow("10: station -1", ARGUMENT, () -> c.door(-1, true));
        dueThrow("10: station 2", ARGUMENT, () -> c.door(2, false));
    }

    private static void move() {
        CarouselRows c = ring(8, 1, 1, 6);
        c.blocked(1, true);
        due("11: over 0", c.move(1, 6), 3);
        due("11: place of 1", c.shelf(1, 0), 6);
        due("11: place of 6", c.shelf(6, 0), 1);
        due("11: units go along", c.shelf(1, 1), 2);
        due("11: unit keeps its shelf", c.unit(0), 1);
        due("11: blocked goes along", c.shelf(1, 2), 1);
        due("11: not blocked goes along", c.shelf(6, 2), 0);
        due("11: the place in front stays", c.count(1), 0);
        due("11: no turns", c.count(2), 0);
        due("11: places count, not numbers", c.move(1, 2), 4);
        due("11: place of 2", c.shelf(2, 0), 6);
        due("11: next to one another", c.move(1, 6), 1);
        dueThrow("11: same", STATE, () -> c.move(3, 3));
        dueThrow("11: shelf -1", ELEMENT, () -> c.move(-1, 3));
        dueThrow("11: shelf 8", ELEMENT, () -> c.move(3, 8));
        dueThrow("11: same, but there is none", ELEMENT, () -> c.move(8, 8));
        for (int station = 0; station < 2; station++) {
            int s = station;
            c.door(s, true);
            dueThrow("11: door " + s, STATE, () -> c.move(3, 4));
            dueThrow("11: shelf before door " + s, ELEMENT, () -> c.move(3, -1));
            c.door(s, false);
        }
        due("11: refused ones stay", c.shelf(3, 0), 3);
        dueThrow("11: no places", ELEMENT, () -> new CarouselRows(0).move(0, 0));
    }

    private static void blocked() {
        CarouselRows c = ring(4, 2);
        due("12: on", c.blocked(2, true), false);
        due("12: on again", c.blocked(2, true), true);
        due("12: told", c.shelf(2, 2), 1);
        due("12: another", c.shelf(1, 2), 0);
        due("12: off", c.blocked(2, false), true);
        due("12: off again", c.blocked(2, false), false);
        due("12: told off", c.shelf(2, 2), 0);
        dueThrow("12: shelf -1", ELEMENT, () -> c.blocked(-1, true));
        dueThrow("12: shelf 4", ELEMENT, () -> c.blocked(4, true));
        c.door(0, true);
        due("12: with an open door", c.blocked(3, true), false);
    }

    private static void days() {
        CarouselRows c = ring(4, 0, 0);
        fetch(c, 0);
        c.put(0, 0);
        fetch(c, 0);
        c.put(0, 0);
        fetch(c, 0);
        fetch(c, 1);
        c.days(0);
        due("13: no day", c.learned(0), 192);
        c.days(1);
        due("13: one day", c.learned(0), 96);
        due("13: every unit's", c.learned(1), 32);
        c.days(4);
        due("13: five days", c.learned(0), 6);
        c.days(2);
        due("13: rests are dropped", c.learned(0), 1);
        c.days(30);
        due("13: nothing is left", c.learned(0), 0);
        c.put(0, 0);
        fetch(c, 0);
        c.days(30);
        due("13: thirty days at once", c.learned(0), 0);
        dueThrow("13: -1", ARGUMENT, () -> c.days(-1));
        dueThrow("13: 31", ARGUMENT, () -> c.days(31));
        dueThrow("13: 32", ARGUMENT, () -> c.days(32));
        due("13: fetched ones stay", c.count(5), 5);
    }

    private static void learned() {
        CarouselRows c = ring(4, 0, 1);
        due("14: at first", c.learned(19), 0);
        dueThrow("14: -1", ARGUMENT, () -> c.learned(-1));
        dueThrow("14: 20", ARGUMENT, () -> c.learned(20));
        fetch(c, 1);
        due("14: fetched", c.learned(1), 64);
        due("14: not fetched", c.learned(0), 0);
        c.put(3, 1);
        due("14: put back", c.learned(1), 64);
        c.days(1);
        fetch(c, 1);
        due("14: a day between", c.learned(1), 96);
    }

    private static void rest() {
        due("15: no places", new CarouselRows(0).rest(), -1);
        due("15: one place", new CarouselRows(1).rest(), 0);
        CarouselRows c = ring(8, 3, 5, 5, 2);
        due("15: all equal", c.rest(), 0);
        c.move(0, 6);
        due("15: the lowest shelf's place", c.rest(), 6);
        fetch(c, 0);
        due("15: a fetched unit lies on none", c.rest(), 6);
        c.put(3, 0);
        due("15: put back", c.rest(), 3);
        fetch(c, 1);
        c.put(5, 1);
        due("15: equal, lower number", c.rest(), 3);
        c.move(3, 7);
        due("15: equal, lower number, higher place", c.rest(), 7);
        fetch(c, 2);
        c.put(5, 2);
        due("15: the sum", c.rest(), 5);
        c.blocked(5, true);
        due("15: blocked ones, too", c.rest(), 5);
        c.days(7);
        due("15: fallen", c.rest(), 6);
    }

    private static void shelf() {
        CarouselRows c = ring(10, 4, 4, 4);
        fetch(c, 0);
        fetch(c, 1);
        c.put(4, 0);
        c.move(4, 9);
        c.turn(1);
        due("16: place", c.shelf(4, 0), 9);
        due("16: units", c.shelf(4, 1), 2);
        due("16: not blocked", c.shelf(4, 2), 0);
        c.blocked(4, true);
        due("16: blocked", c.shelf(4, 2), 1);
        due("16: distance over 0", c.shelf(4, 3), 2);
        due("16: distance up", c.shelf(3, 3), 2);
        due("16: distance to the far side", c.shelf(6, 3), 5);
        due("16: distance of the one in front", c.shelf(1, 3), 0);
        due("16: sum of those that lie on it", c.shelf(4, 4), 64);
        c.put(4, 1);
        due("16: sum of both", c.shelf(4, 4), 128);
        due("16: sum of another", c.shelf(9, 4), 0);
        dueThrow("16: shelf -1", ELEMENT, () -> c.shelf(-1, 0));
        dueThrow("16: shelf 10", ELEMENT, () -> c.shelf(10, 0));
        dueThrow("16: what -1", ARGUMENT, () -> c.shelf(0, -1));
        dueThrow("16: what 5", ARGUMENT, () -> c.shelf(0, 5));
        dueThrow("16: shelf before what", ELEMENT, () -> c.shelf(10, 5));
    }

    private static void unit() {
        CarouselRows c = ring(4, 3);
        due("17: lies", c.unit(0), 3);
        due("17: lies nowhere", c.unit(19), -1);
        c.move(3, 1);
        due("17: the shelf, not the place", c.unit(0), 3);
        fetch(c, 0);
        due("17: fetched", c.unit(0), -1);
        c.put(2, 0);
        due("17: back", c.unit(0), 2);
        dueThrow("17: -1", ARGUMENT, () -> c.unit(-1));
        dueThrow("17: 20", ARGUMENT, () -> c.unit(20));
    }

    private static void count() {
        CarouselRows c = ring(9, 3, 3, 8);
        wantAll(c, 2);
        fetch(c, 0);
        fetch(c, 2);
        due("18: places", c.count(0), 9);
        due("18: in front", c.count(1), 8);
        due("18: turns", c.count(2), 7);
        due("18: on shelves", c.count(3), 1);
        due("18: on the list", c.count(4), 2);
        due("18: fetched", c.count(5), 2);
        due("18: 6", c.count(6), -1);
        due("18: -1", c.count(-1), -1);
        due("18: least", c.count(Integer.MIN_VALUE), -1);
        due("18: no places", new CarouselRows(0).count(1), -1);
    }

    public static void main(String[] args) {
        newObject();
        put();
        turn();
        want();
        plan();
        at();
        exact();
        clear();
        pick();
        door();
        move();
        blocked();
        days();
        learned();
        rest();
        shelf();
        unit();
        count();
        System.out.println(wrong == 0 ? "every promise holds" : wrong + " answers are not as due");
        if (wrong != 0) {
            System.exit(1);
        }
    }
}
