/** Planners as the tests of the edges need them. */
final class Towns {
    private Towns() {
    }

    /** Nodes 0 to count - 1; all but node 0 neither turning places nor stores. */
    static PloughPlanner withNodes(int count) {
        PloughPlanner x = new PloughPlanner();
        for (int node = 1; node < count; node++) {
            x.addNode(false, false);
        }
        return x;
    }

    /** Nodes 0 and 1, both turning places, and road 0 from 0 to 1 with these minutes and priority 0. */
    static PloughPlanner withRoad(int minutes) {
        PloughPlanner x = new PloughPlanner();
        x.addNode(true, false);
        x.addRoad(0, 1, minutes, 0);
        return x;
    }

    /** As withRoad, with this many millimetres on both sides. */
    static PloughPlanner withSnow(int minutes, int millimetres) {
        PloughPlanner x = withRoad(minutes);
        letItSnow(x, millimetres);
        return x;
    }

    /** Lets it snow in as many calls as it takes. */
    static void letItSnow(PloughPlanner x, int millimetres) {
        int left = millimetres;
        while (left > 0) {
            int now = Math.min(left, 300);
            x.snow(now);
            left -= now;
        }
    }

    /** 8 nodes and 12 roads between them, all nodes turning places. */
    static PloughPlanner full() {
        PloughPlanner x = new PloughPlanner();
        for (int node = 1; node < 8; node++) {
            x.addNode(true, false);
        }
        for (int road = 0; road < 12; road++) {
            x.addRoad(road % 8, (road + 1) % 8, 1 + road, road % 3);
        }
        return x;
    }

    /**
     * Nodes 0 and 1, both turning places and no stores; road 0 with 15 minutes and priority 0, road 1 with 1 minute
     * and priority 2, both from 0 to 1. No side has snow or salt; the plough is at node 0 by road 1, and strews.
     */
    static PloughPlanner withSaltLeft(int salt) {
        PloughPlanner x = withRoad(15);
        x.setNode(0, true, false);
        x.addRoad(0, 1, 1, 2);
        int wanted = 120 - salt;
        for (int i = 0; i < wanted / 15; i++) {
            strewOnce(x, 0);
        }
        for (int i = 0; i < wanted % 15; i++) {
            strewOnce(x, 1);
        }
        x.snow(1);
        x.strew(false);
        for (int road = 0; road < 2; road++) {
            // Each going halves what lies on the road.
            for (int i = 0; i < 12; i++) {
                x.go(road);
            }
        }
        x.strew(true);
        if (x.plough(2) != salt || x.plough(0) != 0 || x.plough(1) != 1 || x.bare() != 1) {
            throw new IllegalStateException("the test's own planner is not as it should be");
        }
        return x;
    }

    /** From node 0 by the road, strewing, and back without. */
    private static void strewOnce(PloughPlanner x, int road) {
        x.snow(2);
        x.strew(true);
        x.go(road);
        x.strew(false);
        x.go(road);
    }

    /** The checksum of promise 22 over these numbers. */
    static long sum(long... numbers) {
        long d = 223;
        for (long number : numbers) {
            d = d * 31 + number;
        }
        return d;
    }
}
