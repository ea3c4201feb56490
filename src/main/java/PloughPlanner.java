/** A planner for one snow plough. */
public final class PloughPlanner {
    private static final int NONE = -1;
    private static final int MAX_NODES = 8;
    private static final int MAX_ROADS = 12;
    private static final int MAX_SIDES = 2 * MAX_ROADS;
    private static final int MAX_MINUTES = 30;
    private static final int LAST_PRIORITY = 2;
    private static final int MAX_SNOWFALL = 300;
    private static final int DEEP_SNOW = 50;
    private static final int TURN_MINUTES = 2;
    private static final int FILL_MINUTES = 4;
    private static final int MAX_LIMIT = 300;
    private static final int LAST_FACT = 3;
    private static final int DIGEST_START = 223;

    private final Town town;
    private final Vehicle vehicle;
    private final Ways ways;

    public PloughPlanner() {
        town = new Town();
        vehicle = new Vehicle(town);
        ways = new Ways(town, vehicle);
    }

    // ---- the town

    public int addNode(boolean isTurning, boolean isStore) throws IllegalStateException {
        if (town.nodeCount() >= MAX_NODES) {
            throw new IllegalStateException("there are 8 nodes");
        }
        return town.appendNode(isTurning, isStore);
    }

    public boolean setNode(int node, boolean isStore, boolean isOn) throws IndexOutOfBoundsException {
        checkNode(node);
        if (isStore) {
            return town.switchStore(node, isOn);
        }
        return town.switchTurning(node, isOn);
    }

    public int addRoad(int a, int b, int minutes, int priority)
            throws IndexOutOfBoundsException, IllegalArgumentException, IllegalStateException {
        checkNode(a);
        checkNode(b);
        if (a == b) {
            throw new IllegalArgumentException("the ends are the same");
        }
        if (minutes < 1 || minutes > MAX_MINUTES) {
            throw new IllegalArgumentException("minutes is not 1 to 30");
        }
        if (!isPriority(priority)) {
            throw new IllegalArgumentException("priority is not 0 to 2");
        }
        if (town.roadCount() >= MAX_ROADS) {
            throw new IllegalStateException("there are 12 roads");
        }
        return town.appendRoad(a, b, minutes, priority);
    }

    public int snow(int millimetres) throws IllegalArgumentException {
        if (millimetres < 1 || millimetres > MAX_SNOWFALL) {
            throw new IllegalArgumentException("millimetres is not 1 to 300");
        }
        town.letItSnow(millimetres);
        return town.deepestSnow();
    }

    public int depth(int road, int side) throws IndexOutOfBoundsException {
        return town.snowOn(checkedSide(road, side));
    }

    public boolean isSalted(int road, int side) throws IndexOutOfBoundsException {
        return town.hasSaltOn(checkedSide(road, side));
    }

    public int worst(int priority) throws IndexOutOfBoundsException {
        if (!isPriority(priority)) {
            throw new IndexOutOfBoundsException("priority is not 0 to 2");
        }
        return town.deepestSnowOf(priority);
    }

    public int reach(int node) throws IndexOutOfBoundsException {
        checkNode(node);
        return town.nodesOpenFrom(node);
    }

    public double bare() {
        int sides = town.sideCount();
        if (sides == 0) {
            return 1;
        }
        return (double) town.sidesWithoutSnow() / sides;
    }

    // ---- the plough

    public boolean strew(boolean isOn) {
        return vehicle.switchStrewing(isOn);
    }

    public int go(int road) throws IndexOutOfBoundsException, IllegalStateException {
        if (!town.hasRoad(road)) {
            throw new IndexOutOfBoundsException("no such road");
        }
        if (!vehicle.canGoBy(road)) {
            throw new IllegalStateException("the plough cannot go by this road");
        }
        return vehicle.driveBy(road);
    }

    public int fill() throws IllegalStateException {
        if (!town.isStoreAt(vehicle.node())) {
            throw new IllegalStateException("the node is no store");
        }
        return vehicle.takeSalt();
    }

    public int plough(int what) throws IndexOutOfBoundsException {
        checkFact(what);
        return vehicle.stateFact(what);
    }

    public int way(int node) throws IndexOutOfBoundsException {
        checkNode(node);
        ways.lookAround();
        return ways.minutesToNode(node);
    }

    public int first(int node) throws IndexOutOfBoundsException {
        checkNode(node);
        ways.lookAround();
        return ways.firstRoadTo(ways.lastSideTo(node));
    }

    public int wayToSide(int road, int side) throws IndexOutOfBoundsException {
        int goal = checkedSide(road, side);
        ways.lookAround();
        return ways.minutesTo(goal);
    }

    public int firstToSide(int road, int side) throws IndexOutOfBoundsException {
        int goal = checkedSide(road, side);
        ways.lookAround();
        return ways.firstRoadTo(goal);
    }

    public int next() {
        return findNextSide();
    }

    public int clear(int limit) throws IllegalArgumentException {
        if (limit < 0 || limit > MAX_LIMIT) {
            throw new IllegalArgumentException("limit is not 0 to 300");
        }
        int minutes = 0;
        int side = findNextSide();
        // Going to a side takes a minute or more, so there are never more rounds than the limit.
        for (int round = 0; round < limit && minutes < limit && side != NONE; round++) {
            if (vehicle.lacksSaltFor(side / 2)) {
                int store = nearestStore();
                if (store != NONE) {
                    minutes += fillUpAt(store);
                    // Going to the store cleared and covered sides, and the plough stands elsewhere.
                    side = findNextSide();
                }
            }
            minutes += followWayTo(side);
            side = findNextSide();
        }
        return minutes;
    }

    public long total(int what) throws IndexOutOfBoundsException {
        checkFact(what);
        return vehicle.totalFact(what);
    }

    public long digest() {
        long d = town.addTo(DIGEST_START);
        for (int what = 0; what <= LAST_FACT; what++) {
            d = d * 31 + vehicle.stateFact(what);
        }
        for (int what = 0; what <= LAST_FACT; what++) {
            d = d * 31 + vehicle.totalFact(what);
        }
        return d;
    }

    // ---- what arguments must be

    private void checkNode(int node) {
        if (!town.hasNode(node)) {
            throw new IndexOutOfBoundsException("no such node");
        }
    }

    private int checkedSide(int road, int side) {
        if (!town.hasRoad(road) || side < 0 || side > 1) {
            throw new IndexOutOfBoundsException("no such side");
        }
        return 2 * road + side;
    }

    private static void checkFact(int what) {
        if (what < 0 || what > LAST_FACT) {
            throw new IndexOutOfBoundsException("what is not 0 to 3");
        }
    }

    private static boolean isPriority(int priority) {
        return priority >= 0 && priority <= LAST_PRIORITY;
    }

    // ---- clearing

    private int findNextSide() {
        ways.lookAround();
        int best = NONE;
        for (int side = 0; side < town.sideCount(); side++) {
            if (town.snowOn(side) >= DEEP_SNOW && ways.minutesTo(side) != NONE && isMoreUrgent(side, best)) {
                best = side;
            }
        }
        return best;
    }

    private boolean isMoreUrgent(int side, int other) {
        if (other == NONE) {
            return true;
        }
        int priority = town.priorityOf(side / 2);
        int otherPriority = town.priorityOf(other / 2);
        if (priority != otherPriority) {
            return priority < otherPriority;
        }
        return ways.minutesTo(side) < ways.minutesTo(other);
    }

    private int nearestStore() {
        int best = NONE;
        for (int node = 0; node < town.nodeCount(); node++) {
            if (town.isStoreAt(node) && ways.minutesToNode(node) != NONE
                    && (best == NONE || ways.minutesToNode(node) < ways.minutesToNode(best))) {
                best = node;
            }
        }
        return best;
    }

    private int fillUpAt(int store) {
        int minutes = followWayTo(ways.lastSideTo(store));
        vehicle.takeSalt();
        return minutes + FILL_MINUTES;
    }

    private int followWayTo(int side) {
        int minutes = 0;
        for (int step = 0; step < ways.lengthTo(side); step++) {
            minutes += vehicle.driveBy(ways.roadTo(side, step));
        }
        return minutes;
    }

    /** The nodes and the roads, and what lies on them. A side has the number 2 * its road + its number there. */
    private static final class Town {
        private static final int MAX_SNOW = 999;
        private static final int BLOCKING_SNOW = 300;

        private final boolean[] turning = new boolean[MAX_NODES];
        private final boolean[] stores = new boolean[MAX_NODES];
        private final int[] starts = new int[MAX_SIDES];
        private final int[] minutes = new int[MAX_ROADS];
        private final int[] priorities = new int[MAX_ROADS];
        private final int[] depths = new int[MAX_SIDES];
        private final boolean[] salted = new boolean[MAX_SIDES];
        private int nodes;
        private int roads;

        Town() {
            turning[0] = true;
            stores[0] = true;
            nodes = 1;
            roads = 0;
        }

        int nodeCount() {
            return nodes;
        }

        int roadCount() {
            return roads;
        }

        int sideCount() {
            return 2 * roads;
        }

        boolean hasNode(int node) {
            return node >= 0 && node < nodes;
        }

        boolean hasRoad(int road) {
            return road >= 0 && road < roads;
        }

        boolean hasSide(int side) {
            return side >= 0 && side < 2 * roads;
        }

        int appendNode(boolean isTurning, boolean isStore) {
            if (nodes >= MAX_NODES) {
                return NONE;
            }
            turning[nodes] = isTurning;
            stores[nodes] = isStore;
            nodes++;
            return nodes - 1;
        }

        int appendRoad(int a, int b, int roadMinutes, int priority) {
            if (roads >= MAX_ROADS) {
                return NONE;
            }
            starts[2 * roads] = a;
            starts[2 * roads + 1] = b;
            minutes[roads] = roadMinutes;
            priorities[roads] = priority;
            roads++;
            return roads - 1;
        }

        boolean switchStore(int node, boolean isOn) {
            boolean before = isStoreAt(node);
            if (hasNode(node)) {
                stores[node] = isOn;
            }
            return before;
        }

        boolean switchTurning(int node, boolean isOn) {
            boolean before = isTurningAt(node);
            if (hasNode(node)) {
                turning[node] = isOn;
            }
            return before;
        }

        boolean isStoreAt(int node) {
            return hasNode(node) && stores[node];
        }

        boolean isTurningAt(int node) {
            return hasNode(node) && turning[node];
        }

        int minutesOf(int road) {
            return hasRoad(road) ? minutes[road] : 0;
        }

        int priorityOf(int road) {
            return hasRoad(road) ? priorities[road] : NONE;
        }

        int startOf(int side) {
            return hasSide(side) ? starts[side] : NONE;
        }

        int endOf(int side) {
            return hasSide(side) ? starts[side ^ 1] : NONE;
        }

        int snowOn(int side) {
            return hasSide(side) ? depths[side] : 0;
        }

        boolean hasSaltOn(int side) {
            return hasSide(side) && salted[side];
        }

        /** The side of a road on which one goes from a node; NONE if the node is not an end of it. */
        int sideFrom(int node, int road) {
            if (startOf(2 * road) == node) {
                return 2 * road;
            }
            return startOf(2 * road + 1) == node ? 2 * road + 1 : NONE;
        }

        /** Whether one who came to a node by a road (or by NONE) can go on by a side. */
        boolean canGoOn(int node, int cameBy, int side) {
            return hasSide(side) && starts[side] == node && (side / 2 != cameBy || isTurningAt(node));
        }

        void letItSnow(int millimetres) {
            for (int side = 0; side < sideCount(); side++) {
                heap(side, salted[side] ? millimetres / 2 : millimetres);
                salted[side] = false;
            }
        }

        void putSaltOn(int side) {
            if (hasSide(side)) {
                salted[side] = true;
            }
        }

        void pushSnowFrom(int side) {
            if (hasSide(side)) {
                heap(side ^ 1, depths[side] / 2);
                depths[side] = 0;
            }
        }

        private void heap(int side, int millimetres) {
            if (hasSide(side)) {
                depths[side] = Math.min(MAX_SNOW, depths[side] + millimetres);
            }
        }

        int deepestSnow() {
            int deepest = 0;
            for (int side = 0; side < sideCount(); side++) {
                deepest = Math.max(deepest, depths[side]);
            }
            return deepest;
        }

        int deepestSnowOf(int priority) {
            int deepest = NONE;
            for (int side = 0; side < sideCount(); side++) {
                if (priorities[side / 2] == priority) {
                    deepest = Math.max(deepest, depths[side]);
                }
            }
            return deepest;
        }

        int sidesWithoutSnow() {
            int count = 0;
            for (int side = 0; side < sideCount(); side++) {
                if (depths[side] == 0) {
                    count++;
                }
            }
            return count;
        }

        int nodesOpenFrom(int node) {
            int reached = 1 << node;
            // A node is at most nodes - 1 sides away, and each round goes at least one side further.
            for (int round = 1; round < nodes; round++) {
                reached = withNeighbours(reached);
            }
            return reached;
        }

        private int withNeighbours(int reached) {
            int grown = reached;
            for (int side = 0; side < sideCount(); side++) {
                if (depths[side] < BLOCKING_SNOW && (grown >> startOf(side) & 1) == 1) {
                    grown |= 1 << endOf(side);
                }
            }
            return grown;
        }

        /** Goes on with the checksum d over the nodes and the roads. */
        long addTo(long d) {
            long sum = d * 31 + nodes;
            for (int node = 0; node < nodes; node++) {
                sum = sum * 31 + (turning[node] ? 1 : 0) + (stores[node] ? 2 : 0);
            }
            sum = sum * 31 + roads;
            for (int side = 0; side < sideCount(); side += 2) {
                sum = sum * 31 + snowOn(side);
                sum = sum * 31 + snowOn(side + 1);
                sum = sum * 31 + (hasSaltOn(side) ? 1 : 0) + (hasSaltOn(side + 1) ? 2 : 0);
            }
            return sum;
        }
    }

    /** The plough itself: where it is, what it carries, and what it has done. */
    private static final class Vehicle {
        private static final int MAX_SALT = 120;

        private final Town town;
        private int node;
        private int cameBy;
        private int salt;
        private boolean strewing;
        private long minutesSpent;
        private long saltStrewn;
        private long turns;
        private long roadsGone;

        Vehicle(Town town) {
            this.town = town;
            node = 0;
            cameBy = NONE;
            salt = MAX_SALT;
            strewing = true;
        }

        int node() {
            return node;
        }

        int cameBy() {
            return cameBy;
        }

        boolean switchStrewing(boolean isOn) {
            boolean before = strewing;
            strewing = isOn;
            return before;
        }

        boolean lacksSaltFor(int road) {
            return strewing && salt < town.minutesOf(road);
        }

        boolean canGoBy(int road) {
            return town.canGoOn(node, cameBy, town.sideFrom(node, road));
        }

        int driveBy(int road) {
            int side = town.sideFrom(node, road);
            if (side == NONE) {
                return 0;
            }
            int minutes = town.minutesOf(road);
            if (town.snowOn(side) >= DEEP_SNOW) {
                minutes *= 2;
            }
            if (road == cameBy) {
                minutes += TURN_MINUTES;
                turns++;
            }
            strewOn(side, town.minutesOf(road));
            town.pushSnowFrom(side);
            node = town.endOf(side);
            cameBy = road;
            roadsGone++;
            minutesSpent += minutes;
            return minutes;
        }

        private void strewOn(int side, int amount) {
            if (town.snowOn(side) > 0 && strewing && salt >= amount) {
                town.putSaltOn(side);
                salt -= amount;
                saltStrewn += amount;
            }
        }

        int takeSalt() {
            int amount = MAX_SALT - salt;
            salt = MAX_SALT;
            minutesSpent += FILL_MINUTES;
            return amount;
        }

        int stateFact(int what) {
            switch (what) {
                case 0:
                    return node;
                case 1:
                    return cameBy;
                case 2:
                    return salt;
                default:
                    return strewing ? 1 : 0;
            }
        }

        long totalFact(int what) {
            switch (what) {
                case 0:
                    return minutesSpent;
                case 1:
                    return saltStrewn;
                case 2:
                    return turns;
                default:
                    return roadsGone;
            }
        }
    }

    /** The shortest way to each side from where the plough was at the last look. */
    private static final class Ways {
        // One row more than there are sides: a way is laid out here before it is known to be the shortest.
        private static final int TRIAL = MAX_SIDES;

        private final Town town;
        private final Vehicle vehicle;
        private final int[] minutes = new int[MAX_SIDES + 1];
        private final int[] lengths = new int[MAX_SIDES + 1];
        private final int[][] rows = new int[MAX_SIDES + 1][MAX_SIDES];
        private final boolean[] settled = new boolean[MAX_SIDES];
        private int start;

        Ways(Town town, Vehicle vehicle) {
            this.town = town;
            this.vehicle = vehicle;
            start = 0;
        }

        /**
         * The rule for going on depends on the road one came by, so the search runs over sides, not nodes.
         * Each road takes a minute or more, so the nearest open side can no longer be bettered.
         */
        void lookAround() {
            start = vehicle.node();
            forgetAll();
            goOnFrom(NONE, start, vehicle.cameBy());
            for (int round = 0; round < town.sideCount(); round++) {
                int side = nearestOpenSide();
                if (side == NONE) {
                    break;
                }
                settled[side] = true;
                goOnFrom(side, town.endOf(side), side / 2);
            }
        }

        private void forgetAll() {
            for (int side = 0; side < MAX_SIDES; side++) {
                minutes[side] = NONE;
                lengths[side] = 0;
                settled[side] = false;
            }
        }

        private int nearestOpenSide() {
            int best = NONE;
            for (int side = 0; side < town.sideCount(); side++) {
                if (!settled[side] && minutes[side] != NONE && (best == NONE || minutes[side] < minutes[best])) {
                    best = side;
                }
            }
            return best;
        }

        private void goOnFrom(int before, int node, int cameBy) {
            for (int side = 0; side < town.sideCount(); side++) {
                if (!settled[side] && town.canGoOn(node, cameBy, side)) {
                    layTrial(before, side, side / 2 == cameBy ? TURN_MINUTES : 0);
                    if (minutes[side] == NONE || isShorter(TRIAL, side)) {
                        copyRow(TRIAL, side, lengths[TRIAL]);
                        minutes[side] = minutes[TRIAL];
                        lengths[side] = lengths[TRIAL];
                    }
                }
            }
        }

        private void layTrial(int before, int side, int turnMinutes) {
            int length = lengthTo(before);
            if (length >= MAX_SIDES) {
                return;
            }
            copyRow(before, TRIAL, length);
            rows[TRIAL][length] = side / 2;
            lengths[TRIAL] = length + 1;
            minutes[TRIAL] = (before == NONE ? 0 : minutesTo(before)) + town.minutesOf(side / 2) + turnMinutes;
        }

        private void copyRow(int from, int to, int length) {
            for (int i = 0; i < length; i++) {
                rows[to][i] = rows[from][i];
            }
        }

        private boolean isShorter(int one, int other) {
            if (minutes[one] != minutes[other]) {
                return minutes[one] < minutes[other];
            }
            if (lengths[one] != lengths[other]) {
                return lengths[one] < lengths[other];
            }
            for (int i = 0; i < lengths[one]; i++) {
                if (rows[one][i] != rows[other][i]) {
                    return rows[one][i] < rows[other][i];
                }
            }
            return false;
        }

        int minutesTo(int side) {
            return town.hasSide(side) ? minutes[side] : NONE;
        }

        int lengthTo(int side) {
            return town.hasSide(side) ? lengths[side] : 0;
        }

        int roadTo(int side, int step) {
            return step >= 0 && step < lengthTo(side) ? rows[side][step] : NONE;
        }

        int firstRoadTo(int side) {
            return roadTo(side, 0);
        }

        int minutesToNode(int node) {
            return node == start ? 0 : minutesTo(lastSideTo(node));
        }

        /** The last side of the way to a node; NONE if there is no way or it has no roads. */
        int lastSideTo(int node) {
            int best = NONE;
            if (node == start) {
                return best;
            }
            for (int side = 0; side < town.sideCount(); side++) {
                if (town.endOf(side) == node && minutes[side] != NONE && (best == NONE || isShorter(side, best))) {
                    best = side;
                }
            }
            return best;
        }
    }
}
