import java.util.ArrayList;
import java.util.Collections;
import java.util.List;
import java.util.NoSuchElementException;

/**
 * Long runs of calls on the class and on a slow model of the document, written another way; every
 * answer of the two is compared, and at a run's end all that can be asked.
 */
public final class CarouselRowsModel {
    private static final int RUNS = 8000;
    /** With the doors set between and the questions at the end, a run stays within 512 calls. */
    private static final int CALLS = 200;

    private static int wrong = 0;
    private static long seed = 20261115L;

    /** The same numbers at each run, so that a failure can be told again. */
    private static int next(int bound) {
        seed = seed * 6364136223846793005L + 1442695040888963407L;
        return (int) ((seed >>> 33) % bound);
    }

    private static final class Shelf {
        final int number;
        final List<Integer> units = new ArrayList<>();
        boolean blocked;

        Shelf(int number) {
            this.number = number;
        }
    }

    /** The ring as a row of shelves by place; everything else is searched for in it. */
    private static final class Model {
        final List<Shelf> row = new ArrayList<>();
        final List<Integer> list = new ArrayList<>();
        final int[] counts = new int[20];
        final boolean[] open = new boolean[2];
        List<Integer> plan = new ArrayList<>();
        boolean exact;
        int front;
        int turns;
        int fetched;

        Model(int shelves) {
            for (int i = 0; i < shelves && i < 24; i++) {
                row.add(new Shelf(i));
            }
        }

        int place(int shelf) {
            for (int p = 0; p < row.size(); p++) {
                if (row.get(p).number == shelf) {
                    return p;
                }
            }
            throw new NoSuchElementException();
        }

        Shelf byNumber(int shelf) {
            return row.get(place(shelf));
        }

        Shelf holder(int unit) {
            if (unit < 0 || unit > 19) {
                throw new IllegalArgumentException();
            }
            for (Shelf s : row) {
                if (s.units.contains(unit)) {
                    return s;
                }
            }
            return null;
        }

        int steps(int from, int to) {
            int up = 0;
            while ((from + up) % row.size() != to) {
                up++;
            }
            int down = 0;
            while ((to + down) % row.size() != from) {
                down++;
            }
            return up <= down ? up : down;
        }

        int sum(Shelf s) {
            int sum = 0;
            for (int unit : s.units) {
                sum += counts[unit];
            }
            return sum;
        }

        int put(int shelf, int unit) {
            Shelf s = byNumber(shelf);
            if (holder(unit) != null) {
                throw new IllegalStateException();
            }
            if (s.units.size() == 4) {
                throw new UnsupportedOperationException();
            }
            s.units.add(unit);
            return s.units.size();
        }

        int turn(int to) {
            if (row.isEmpty()) {
                throw new ArithmeticException();
            }
            if (to < 0 || to >= row.size()) {
                throw new IllegalArgumentException();
            }
            if (open[0] || open[1]) {
                throw new IllegalStateException();
            }
            int n = steps(front, to);
            turns += n;
            front = to;
            return n;
        }

        int want(int unit) {
            Shelf s = holder(unit);
            if (s == null || s.blocked || list.contains(unit)) {
                throw new IllegalStateException();
            }
            if (list.size() == 8) {
                throw new UnsupportedOperationException();
            }
            list.add(unit);
            return list.size();
        }

        int turnsOf(List<Integer> order) {
            int n = 0;
            int from = front;
            for (int shelf : order) {
                n += steps(from, place(shelf));
                from = place(shelf);
            }
            return n;
        }

        int plan(int most) {
            if (most < 0 || most > 6) {
                throw new IllegalArgumentException();
            }
            List<Integer> shelves = new ArrayList<>();
            for (int unit : list) {
                Shelf s = holder(unit);
                if (s == null || s.blocked) {
                    throw new IllegalStateException();
                }
                if (!shelves.contains(s.number)) {
                    shelves.add(s.number);
                }
            }
            exact = shelves.size() <= most;
            plan = exact ? fewest(shelves) : byRule(shelves);
            return turnsOf(plan);
        }

        List<Integer> fewest(List<Integer> shelves) {
            List<List<Integer>> orders = new ArrayList<>();
            allOrders(new ArrayList<>(), shelves, orders);
            orders.sort((a, b) -> {
                int byTurns = Integer.compare(turnsOf(a), turnsOf(b));
                for (int i = 0; byTurns == 0 && i < a.size(); i++) {
                    byTurns = Integer.compare(a.get(i), b.get(i));
                }
                return byTurns;
            });
            return orders.get(0);
        }

        void allOrders(List<Integer> begun, List<Integer> left, List<List<Integer>> out) {
            if (left.isEmpty()) {
                out.add(new ArrayList<>(begun));
            }
            for (Integer shelf : left) {
                List<Integer> rest = new ArrayList<>(left);
                rest.remove(shelf);
                begun.add(shelf);
                allOrders(begun, rest, out);
                begun.remove(begun.size() - 1);
            }
        }

        List<Integer> byRule(List<Integer> shelves) {
            List<Integer> left = new ArrayList<>(shelves);
            List<Integer> order = new ArrayList<>();
            int from = front;
            while (!left.isEmpty()) {
                int at = from;
                Integer next = Collections.min(left, (a, b) -> {
                    int byWay = Integer.compare(steps(at, place(a)), steps(at, place(b)));
                    return byWay != 0 ? byWay : Integer.compare(a, b);
                });
                left.remove(next);
                order.add(next);
                from = place(next);
            }
            return order;
        }

        int clear() {
            int n = list.size();
            list.clear();
            plan = new ArrayList<>();
            exact = false;
            return n;
        }

        boolean pick(int unit, int station) {
            if (row.isEmpty()) {
                throw new ArithmeticException();
            }
            if (unit < 0 || unit > 19 || station < 0 || station > 1) {
                throw new IllegalArgumentException();
            }
            Shelf s = row.get(front);
            if (!open[station] || s.blocked) {
                throw new IllegalStateException();
            }
            if (!s.units.remove((Integer) unit)) {
                return false;
            }
            counts[unit] += 64;
            fetched++;
            return true;
        }

        boolean door(int station, boolean on) {
            if (station != 0 && station != 1) {
                throw new IllegalArgumentException();
            }
            boolean was = open[station];
            open[station] = on;
            return was;
        }

        int move(int shelf, int other) {
            int a = place(shelf);
            int b = place(other);
            if (open[0] || open[1] || a == b) {
                throw new IllegalStateException();
            }
            Collections.swap(row, a, b);
            return steps(a, b);
        }

        boolean blocked(int shelf, boolean on) {
            Shelf s = byNumber(shelf);
            boolean was = s.blocked;
            s.blocked = on;
            return was;
        }

        void days(int n) {
            if (n < 0 || n > 30) {
                throw new IllegalArgumentException();
            }
            for (int day = 0; day < n; day++) {
                for (int unit = 0; unit < 20; unit++) {
                    counts[unit] = counts[unit] / 2;
                }
            }
        }

        int learned(int unit) {
            holder(unit);
            return counts[unit];
        }

        int rest() {
            int best = -1;
            for (int shelf = row.size() - 1; shelf >= 0; shelf--) {
                if (best < 0 || sum(byNumber(shelf)) >= sum(byNumber(best))) {
                    best = shelf;
                }
            }
            return best < 0 ? -1 : place(best);
        }

        int shelf(int shelf, int what) {
            Shelf s = byNumber(shelf);
            if (what < 0 || what > 4) {
                throw new IllegalArgumentException();
            }
            int[] told = {place(shelf), s.units.size(), s.blocked ? 1 : 0, steps(place(shelf), front), sum(s)};
            return told[what];
        }

        int unit(int unit) {
            Shelf s = holder(unit);
            return s == null ? -1 : s.number;
        }

        int count(int what) {
            int lying = 0;
            for (Shelf s : row) {
                lying += s.units.size();
            }
            int[] told = {row.size(), row.isEmpty() ? -1 : front, turns, lying, list.size(), fetched};
            return what < 0 || what > 5 ? -1 : told[what];
        }

        int at(int i) {
            return i < 0 || i >= plan.size() ? -1 : plan.get(i);
        }
    }

    private static String onClass(CarouselRows c, int call, int a, int b) {
        try {
            switch (call) {
                case 0: return "" + c.put(a, b);
                case 1: return "" + c.turn(a);
                case 2: return "" + c.want(b);
                case 3: return "" + c.plan(a);
                case 4: return "" + c.clear();
                case 5: return "" + c.pick(b, a);
                case 6: return "" + c.door(a, b % 2 == 0);
                case 7: return "" + c.move(a, b);
                case 8: return "" + c.blocked(a, b % 4 == 0);
                case 9: c.days(a); return "";
                case 10: return "" + c.learned(b);
                case 11: return "" + c.shelf(a, b);
                case 12: return "" + c.unit(b);
                case 13: return "" + c.at(a);
                case 14: return "" + c.exact();
                case 15: return "" + c.rest();
                default: return "" + c.count(a);
            }
        } catch (RuntimeException e) {
            return e.getClass().getSimpleName();
        }
    }

    private static String onModel(Model m, int call, int a, int b) {
        try {
            switch (call) {
                case 0: return "" + m.put(a, b);
                case 1: return "" + m.turn(a);
                case 2: return "" + m.want(b);
                case 3: return "" + m.plan(a);
                case 4: return "" + m.clear();
                case 5: return "" + m.pick(b, a);
                case 6: return "" + m.door(a, b % 2 == 0);
                case 7: return "" + m.move(a, b);
                case 8: return "" + m.blocked(a, b % 4 == 0);
                case 9: m.days(a); return "";
                case 10: return "" + m.learned(b);
                case 11: return "" + m.shelf(a, b);
                case 12: return "" + m.unit(b);
                case 13: return "" + m.at(a);
                case 14: return "" + m.exact;
                case 15: return "" + m.rest();
                default: return "" + m.count(a);
            }
        } catch (RuntimeException e) {
            return e.getClass().getSimpleName();
        }
    }

    private static String stateOfClass(CarouselRows c) {
        StringBuilder s = new StringBuilder();
        for (int what = 0; what <= 5; what++) {
            s.append(c.count(what)).append(' ');
        }
        for (int shelf = 0; shelf < c.count(0); shelf++) {
            for (int what = 0; what <= 4; what++) {
                s.append(c.shelf(shelf, what)).append(' ');
            }
        }
        for (int unit = 0; unit < 20; unit++) {
            s.append(c.unit(unit)).append(' ').append(c.learned(unit)).append(' ');
        }
        for (int i = -1; i <= 8; i++) {
            s.append(c.at(i)).append(' ');
        }
        return s.append(c.exact()).append(' ').append(c.rest()).toString();
    }

    private static String stateOfModel(Model m) {
        StringBuilder s = new StringBuilder();
        for (int what = 0; what <= 5; what++) {
            s.append(m.count(what)).append(' ');
        }
        for (int shelf = 0; shelf < m.count(0); shelf++) {
            for (int what = 0; what <= 4; what++) {
                s.append(m.shelf(shelf, what)).append(' ');
            }
        }
        for (int unit = 0; unit < 20; unit++) {
            s.append(m.unit(unit)).append(' ').append(m.learned(unit)).append(' ');
        }
        for (int i = -1; i <= 8; i++) {
            s.append(m.at(i)).append(' ');
        }
        return s.append(m.exact).append(' ').append(m.rest()).toString();
    }

    /** Mostly a number below the bound, now and then one at its edge or far away. */
    private static int number(int bound) {
        int kind = next(40);
        if (kind == 0) {
            return -1;
        }
        if (kind == 1) {
            return bound;
        }
        if (kind == 2) {
            return next(2) == 0 ? Integer.MIN_VALUE : Integer.MAX_VALUE;
        }
        return bound == 0 ? 0 : next(bound);
    }

    private static final int[] OFTEN = {0, 0, 0, 0, 1, 1, 2, 2, 2, 2, 3, 3, 4, 5, 5, 5, 5, 6, 6, 6, 7, 8, 9, 10, 11, 12, 13, 13, 14, 15, 16};

    private static int first(int call, int places) {
        switch (call) {
            case 3: return next(3) == 0 ? number(7) : 6;
            case 5: return number(2);
            case 6: return number(2);
            case 9: return next(4) == 0 ? number(31) : number(3);
            case 13: return number(8);
            case 16: return number(6);
            default: return number(places);
        }
    }

    private static int second(int call, int places, Model m) {
        if (call == 7) {
            return number(places);
        }
        if (call == 11) {
            return number(5);
        }
        // Most pickings at random would be of units that lie elsewhere.
        if (call == 5 && !m.row.isEmpty() && next(3) != 0) {
            List<Integer> there = m.row.get(m.front).units;
            if (!there.isEmpty()) {
                return there.get(next(there.size()));
            }
        }
        if (call == 2 && next(3) != 0) {
            return unitThatLies(m);
        }
        return number(20);
    }

    private static int unitThatLies(Model m) {
        int begin = next(20);
        for (int i = 0; i < 20; i++) {
            int unit = (begin + i) % 20;
            if (m.holder(unit) != null && !m.list.contains(unit)) {
                return unit;
            }
        }
        return begin;
    }

    private static void run(int number) {
        int places = next(30) - 2;
        CarouselRows c = new CarouselRows(places);
        Model m = new Model(places);
        int calls = 1 + next(CALLS);
        for (int k = 0; k < calls; k++) {
            int call = OFTEN[next(OFTEN.length)];
            // Lists are cleared seldom, or no long one would ever be planned.
            if (call == 4 && next(8) != 0) {
                call = 2;
            }
            int a = first(call, m.row.size());
            int b = second(call, m.row.size(), m);
            // The doors are mostly as the call needs them, or nearly all calls would be refused.
            if ((call == 1 || call == 5) && next(4) != 0) {
                setDoors(c, m, call == 5);
            }
            String got = onClass(c, call, a, b);
            String want = onModel(m, call, a, b);
            if (!got.equals(want)) {
                wrong++;
                System.out.println("run " + number + ", call " + k + ": call " + call + " with " + a + ", " + b
                        + " answered " + got + ", the model " + want);
                return;
            }
        }
        if (!stateOfClass(c).equals(stateOfModel(m))) {
            wrong++;
            System.out.println("run " + number + ", at its end:");
            System.out.println("  class " + stateOfClass(c));
            System.out.println("  model " + stateOfModel(m));
        }
    }

    private static void setDoors(CarouselRows c, Model m, boolean open) {
        for (int station = 0; station < 2; station++) {
            c.door(station, open);
            m.door(station, open);
        }
    }

    public static void main(String[] args) {
        for (int i = 0; i < RUNS && wrong < 10; i++) {
            run(i);
        }
        System.out.println(wrong == 0 ? "the class and the model agree" : wrong + " answers differ");
        if (wrong != 0) {
            System.exit(1);
        }
    }
}
