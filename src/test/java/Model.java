import java.util.ArrayList;
import java.util.List;

/**
 * The document once more, written another way: ways are counted backwards from their goal, by their number of
 * roads, and a way is then gone along by the smallest road that keeps to the least.
 */
final class Model {
    static final int FAR = 1_000_000;
    private static final int MOST_ROADS = 26;

    private static final class Road {
        int[] ends;
        int minutes;
        int priority;
        int[] snow = new int[2];
        boolean[] salted = new boolean[2];
    }

    private final List<boolean[]> nodes = new ArrayList<>();
    private final List<Road> roads = new ArrayList<>();
    private int at = 0;
    private int by = -1;
    private int salt = 120;
    private boolean strews = true;
    private final long[] totals = new long[4];

    Model() {
        nodes.add(new boolean[] {true, true});
    }

    private void node(int node) {
        if (node < 0 || node >= nodes.size()) {
            throw new IndexOutOfBoundsException();
        }
    }

    private void side(int road, int side) {
        if (road < 0 || road >= roads.size() || side < 0 || side > 1) {
            throw new IndexOutOfBoundsException();
        }
    }

    private static void range(int x, int low, int high) {
        if (x < low || x > high) {
            throw new IllegalArgumentException();
        }
    }

    private static void index(int x, int high) {
        if (x < 0 || x > high) {
            throw new IndexOutOfBoundsException();
        }
    }

    int addNode(boolean isTurning, boolean isStore) {
        if (nodes.size() == 8) {
            throw new IllegalStateException();
        }
        nodes.add(new boolean[] {isTurning, isStore});
        return nodes.size() - 1;
    }

    boolean setNode(int node, boolean isStore, boolean isOn) {
        node(node);
        boolean old = nodes.get(node)[isStore ? 1 : 0];
        nodes.get(node)[isStore ? 1 : 0] = isOn;
        return old;
    }

    int addRoad(int a, int b, int minutes, int priority) {
        node(a);
        node(b);
        if (a == b) {
            throw new IllegalArgumentException();
        }
        range(minutes, 1, 30);
        range(priority, 0, 2);
        if (roads.size() == 12) {
            throw new IllegalStateException();
        }
        Road road = new Road();
        road.ends = new int[] {a, b};
        road.minutes = minutes;
        road.priority = priority;
        roads.add(road);
        return roads.size() - 1;
    }

    int snow(int millimetres) {
        range(millimetres, 1, 300);
        int most = 0;
        for (Road road : roads) {
            for (int side = 0; side < 2; side++) {
                int more = road.salted[side] ? millimetres / 2 : millimetres;
                road.salted[side] = false;
                road.snow[side] = Math.min(999, road.snow[side] + more);
                most = Math.max(most, road.snow[side]);
            }
        }
        return most;
    }

    int depth(int road, int side) {
        side(road, side);
        return roads.get(road).snow[side];
    }

    boolean isSalted(int road, int side) {
        side(road, side);
        return roads.get(road).salted[side];
    }

    int worst(int priority) {
        index(priority, 2);
        int most = -1;
        for (Road road : roads) {
            if (road.priority == priority) {
                most = Math.max(most, Math.max(road.snow[0], road.snow[1]));
            }
        }
        return most;
    }

    int reach(int node) {
        node(node);
        List<Integer> found = new ArrayList<>(List.of(node));
        for (int i = 0; i < found.size(); i++) {
            for (Road road : roads) {
                for (int side = 0; side < 2; side++) {
                    int to = road.ends[1 - side];
                    if (road.ends[side] == found.get(i) && road.snow[side] < 300 && !found.contains(to)) {
                        found.add(to);
                    }
                }
            }
        }
        return found.stream().mapToInt(n -> 1 << n).sum();
    }

    double bare() {
        double count = 0;
        for (Road road : roads) {
            count += (road.snow[0] == 0 ? 1 : 0) + (road.snow[1] == 0 ? 1 : 0);
        }
        return roads.isEmpty() ? 1 : count / (2 * roads.size());
    }

    boolean strew(boolean isOn) {
        boolean old = strews;
        strews = isOn;
        return old;
    }

    int go(int road) {
        side(road, 0);
        if (costOf(at, by, road) == FAR) {
            throw new IllegalStateException();
        }
        Road r = roads.get(road);
        int side = r.ends[0] == at ? 0 : 1;
        int minutes = (r.snow[side] < 50 ? 1 : 2) * r.minutes + (road == by ? 2 : 0);
        if (r.snow[side] != 0 && strews && salt >= r.minutes) {
            r.salted[side] = true;
            salt -= r.minutes;
            totals[1] += r.minutes;
        }
        r.snow[1 - side] = Math.min(999, r.snow[1 - side] + r.snow[side] / 2);
        r.snow[side] = 0;
        totals[0] += minutes;
        totals[2] += road == by ? 1 : 0;
        totals[3]++;
        at = r.ends[1 - side];
        by = road;
        return minutes;
    }

    int fill() {
        if (!nodes.get(at)[1]) {
            throw new IllegalStateException();
        }
        int more = 120 - salt;
        salt = 120;
        totals[0] += 4;
        return more;
    }

    int plough(int what) {
        index(what, 3);
        return new int[] {at, by, salt, strews ? 1 : 0}[what];
    }

    private int costOf(int node, int cameBy, int road) {
        Road r = roads.get(road);
        if (r.ends[0] != node && r.ends[1] != node) {
            return FAR;
        }
        if (road != cameBy) {
            return r.minutes;
        }
        return nodes.get(node)[0] ? r.minutes + 2 : FAR;
    }

    /** The way to a node (goalNode), or to a side (goalSide, goalNode -1): minutes, then the roads; null if none. */
    private List<Integer> wayTo(int goalNode, int goalSide) {
        int states = 2 * roads.size();
        int[][] least = new int[MOST_ROADS + 1][states];
        for (int k = 0; k <= MOST_ROADS; k++) {
            for (int s = 0; s < states; s++) {
                if (k == 0) {
                    boolean isGoal = goalNode >= 0 ? endOf(s) == goalNode : s == goalSide;
                    least[0][s] = isGoal ? 0 : FAR;
                } else {
                    least[k][s] = leastFrom(endOf(s), s / 2, least[k - 1]);
                }
            }
        }
        if (goalNode == at) {
            return new ArrayList<>(List.of(0));
        }
        int bestK = 0;
        int best = FAR;
        for (int k = 1; k <= MOST_ROADS; k++) {
            int minutes = leastFrom(at, by, least[k - 1]);
            if (minutes < best) {
                best = minutes;
                bestK = k;
            }
        }
        return best >= FAR ? null : wayAlong(least, bestK, best);
    }

    private List<Integer> wayAlong(int[][] least, int count, int minutes) {
        List<Integer> way = new ArrayList<>(List.of(minutes));
        int node = at;
        int cameBy = by;
        int left = minutes;
        for (int k = count; k > 0; k--) {
            for (int road = 0; road < roads.size(); road++) {
                int cost = costOf(node, cameBy, road);
                if (cost < FAR && cost + least[k - 1][sideFrom(node, road)] == left) {
                    way.add(road);
                    left -= cost;
                    node = endOf(sideFrom(node, road));
                    cameBy = road;
                    break;
                }
            }
        }
        return way;
    }

    private int leastFrom(int node, int cameBy, int[] leastBehind) {
        int best = FAR;
        for (int road = 0; road < roads.size(); road++) {
            int cost = costOf(node, cameBy, road);
            if (cost < FAR) {
                best = Math.min(best, cost + leastBehind[sideFrom(node, road)]);
            }
        }
        return best;
    }

    private int sideFrom(int node, int road) {
        return 2 * road + (roads.get(road).ends[0] == node ? 0 : 1);
    }

    private int endOf(int side) {
        return roads.get(side / 2).ends[1 - side % 2];
    }

    private static int minutesOf(List<Integer> way) {
        return way == null ? -1 : way.get(0);
    }

    private static int firstOf(List<Integer> way) {
        return way == null || way.size() < 2 ? -1 : way.get(1);
    }

    int way(int node) {
        node(node);
        return minutesOf(wayTo(node, -1));
    }

    int first(int node) {
        node(node);
        return firstOf(wayTo(node, -1));
    }

    int wayToSide(int road, int side) {
        side(road, side);
        return minutesOf(wayTo(-1, 2 * road + side));
    }

    int firstToSide(int road, int side) {
        side(road, side);
        return firstOf(wayTo(-1, 2 * road + side));
    }

    int next() {
        int best = -1;
        long bestKey = Long.MAX_VALUE;
        for (int side = 0; side < 2 * roads.size(); side++) {
            Road road = roads.get(side / 2);
            int minutes = road.snow[side % 2] < 50 ? -1 : minutesOf(wayTo(-1, side));
            long key = (road.priority * 10_000L + minutes) * 100 + side;
            if (minutes >= 0 && key < bestKey) {
                bestKey = key;
                best = side;
            }
        }
        return best;
    }

    private int goAlong(List<Integer> way) {
        int minutes = 0;
        for (int road : way.subList(1, way.size())) {
            minutes += go(road);
        }
        return minutes;
    }

    int clear(int limit) {
        range(limit, 0, 300);
        int minutes = 0;
        for (int side = next(); side >= 0 && minutes < limit; side = next()) {
            if (strews && salt < roads.get(side / 2).minutes) {
                int store = -1;
                for (int node = nodes.size() - 1; node >= 0; node--) {
                    if (nodes.get(node)[1] && way(node) >= 0 && (store < 0 || way(node) <= way(store))) {
                        store = node;
                    }
                }
                if (store >= 0) {
                    minutes += goAlong(wayTo(store, -1)) + 4;
                    fill();
                    side = next();
                }
            }
            if (side >= 0) {
                minutes += goAlong(wayTo(-1, side));
            }
        }
        return minutes;
    }

    long total(int what) {
        index(what, 3);
        return totals[what];
    }

    long digest() {
        List<Long> numbers = new ArrayList<>();
        numbers.add((long) nodes.size());
        for (boolean[] node : nodes) {
            numbers.add((node[0] ? 1L : 0L) + (node[1] ? 2L : 0L));
        }
        numbers.add((long) roads.size());
        for (Road road : roads) {
            numbers.add((long) road.snow[0]);
            numbers.add((long) road.snow[1]);
            numbers.add((road.salted[0] ? 1L : 0L) + (road.salted[1] ? 2L : 0L));
        }
        for (int what = 0; what < 4; what++) {
            numbers.add((long) plough(what));
        }
        for (int what = 0; what < 4; what++) {
            numbers.add(totals[what]);
        }
        long d = 223;
        for (long number : numbers) {
            d = d * 31 + number;
        }
        return d;
    }
}
