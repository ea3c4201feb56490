/** Promises 15 to 20 at their edges: each test names the promise and the words of the document that it holds to. */
public final class EdgesOfWaysTest {
    private static final Class<IndexOutOfBoundsException> INDEX = IndexOutOfBoundsException.class;
    private static final Class<IllegalArgumentException> ARGUMENT = IllegalArgumentException.class;
    private static final int MIN = Integer.MIN_VALUE;
    private static final int MAX = Integer.MAX_VALUE;
    private static final Check CHECK = new Check();

    public static void main(String[] args) {
        wayNoSuchNode();
        wayWhereItIs();
        wayNone();
        wayMinutesFromLeastToMost();
        wayDoesNotCountSnow();
        wayWithTurnAtOnce();
        wayAlongFourteenRoads();
        firstNoSuchNode();
        firstNoneOrNoRoads();
        firstLeastMinutes();
        firstFewestRoads();
        firstSmallestFirstRoad();
        firstSmallestSecondRoad();
        sideNoSuchSide();
        sideNone();
        sideIsTheLastOne();
        sideWhereItIs();
        sideTwiceTheSameRoad();
        firstToSideOfEqualWays();
        nextNone();
        nextFromFifty();
        nextOnlyWithAWay();
        nextLeastPriority();
        nextLeastMinutes();
        nextSmallestNumber();
        clearOutsideItsBounds();
        clearWithLimitZero();
        clearWithoutNextSide();
        clearLessThanTheLimit();
        clearWithTheGreatestLimit();
        clearFillsOnlyWithLessSalt();
        clearFillsOnlyWhenStrewing();
        clearFillsOnlyWithAWayToAStore();
        clearFillsWhereItStands();
        clearGoesToTheNearestStore();
        clearGoesToTheStoreWithTheSmallestNumber();
        clearLooksAnewAfterFilling();
        clearHasNoNextSideAfterFilling();
        clearCountsFillingAgainstTheLimit();
        clearGoesOnAfterFillingOverTheLimit();
        clearGoesWithAllThatGoingDoes();
        CHECK.end();
    }

    // ---- promise 15

    private static void wayNoSuchNode() {
        CHECK.sentence("Promise 15", "IndexOutOfBoundsException if there is no such node");
        PloughPlanner x = Towns.full();
        for (int node : new int[] {-1, 8, 9, MIN, MAX}) {
            CHECK.dueThrowWithoutChange("way(" + node + ")", INDEX, x, () -> x.way(node));
        }
        CHECK.due("way(0)", x.way(0), 0);
        CHECK.due("way(7)", x.way(7), 8);
        PloughPlanner y = new PloughPlanner();
        CHECK.dueThrow("way(1) with one node", INDEX, () -> y.way(1));
        CHECK.due("way(0) with one node", y.way(0), 0);
    }

    private static void wayWhereItIs() {
        CHECK.sentence("Promise 15", "if the plough is there, the way without roads is one");
        PloughPlanner x = Towns.withNodes(2);
        x.addRoad(0, 1, 5, 0);
        CHECK.due("at first", x.way(0), 0);
        x.go(0);
        CHECK.due("at node 1, though it can go nowhere", x.way(1), 0);
        CHECK.due("no longer at node 0", x.way(0), -1);
    }

    private static void wayNone() {
        CHECK.sentence("Promise 15", "-1 if there is none");
        PloughPlanner x = Towns.withNodes(4);
        CHECK.due("without roads", x.way(1), -1);
        x.addRoad(1, 2, 1, 0);
        CHECK.due("no road from where it is", x.way(1), -1);
        CHECK.due("nor to the end of that road", x.way(2), -1);
        x.addRoad(0, 1, 1, 0);
        CHECK.due("now there is one", x.way(2), 2);
        CHECK.due("not to node 3", x.way(3), -1);
        x.go(1);
        x.go(0);
        CHECK.due("node 2 is no turning place: none back", x.way(1), -1);
        x.setNode(2, false, true);
        CHECK.due("node 2 is one", x.way(1), 3);
        CHECK.due("and on to node 0", x.way(0), 4);
    }

    private static void wayMinutesFromLeastToMost() {
        CHECK.sentence("Promise 15", "Its minutes are those of its roads and 2 for each turn");
        CHECK.due("1 minute", Towns.withRoad(1).way(1), 1);
        CHECK.due("30 minutes", Towns.withRoad(30).way(1), 30);
        PloughPlanner x = Towns.withNodes(8);
        for (int node = 0; node < 7; node++) {
            x.addRoad(node, node + 1, 30, 0);
        }
        CHECK.due("seven roads of 30 minutes", x.way(7), 210);
    }

    private static void wayDoesNotCountSnow() {
        CHECK.sentence("Promise 15", "the snow is not counted");
        PloughPlanner x = Towns.withNodes(2);
        x.addRoad(0, 1, 2, 0);
        Towns.letItSnow(x, 999);
        x.addRoad(0, 1, 3, 0);
        CHECK.due("2 minutes below 999 millimetres, before 3 without snow", x.way(1), 2);
        CHECK.due("first(1)", x.first(1), 0);
        CHECK.due("wayToSide(0, 0)", x.wayToSide(0, 0), 2);
        CHECK.due("going takes twice as many", x.go(0), 4);
    }

    private static void wayWithTurnAtOnce() {
        CHECK.sentence("Promise 15", "but by the one by which it came there only if the node is a turning place");
        PloughPlanner x = Towns.withRoad(5);
        CHECK.due("at first there is no road by which it came", x.way(1), 5);
        x.go(0);
        CHECK.due("a turn at once", x.way(0), 7);
        x.setNode(1, false, false);
        CHECK.due("no turning place", x.way(0), -1);
        PloughPlanner y = Towns.withNodes(2);
        y.setNode(0, false, false);
        y.addRoad(0, 1, 5, 0);
        CHECK.due("nor is one needed at first", y.way(1), 5);
    }

    private static void wayAlongFourteenRoads() {
        CHECK.sentence("Promises 15 and 17", "a row of roads by which it can go, one after the other, from where it is");
        PloughPlanner x = Towns.withNodes(8);
        x.setNode(0, false, false);
        x.setNode(7, false, true);
        for (int node = 0; node < 7; node++) {
            x.addRoad(node, node + 1, 10, 0);
        }
        CHECK.due("seven roads, a turn, and seven back", x.wayToSide(0, 1), 142);
        CHECK.due("the first of them", x.firstToSide(0, 1), 0);
        x.go(0);
        CHECK.due("six roads, a turn, and seven back", x.way(0), 132);
        CHECK.due("the first of them", x.first(0), 1);
        CHECK.due("road 0 anew would need a turn at node 0", x.wayToSide(0, 0), -1);
        x.setNode(0, false, true);
        CHECK.due("with this turn", x.wayToSide(0, 0), 144);
    }

    // ---- promise 16

    private static void firstNoSuchNode() {
        CHECK.sentence("Promise 16", "IndexOutOfBoundsException if there is no such node");
        PloughPlanner x = Towns.full();
        for (int node : new int[] {-1, 8, 9, MIN, MAX}) {
            CHECK.dueThrowWithoutChange("first(" + node + ")", INDEX, x, () -> x.first(node));
        }
        CHECK.due("first(0)", x.first(0), -1);
        CHECK.due("first(7)", x.first(7), 7);
        PloughPlanner y = new PloughPlanner();
        CHECK.dueThrow("first(1) with one node", INDEX, () -> y.first(1));
    }

    private static void firstNoneOrNoRoads() {
        CHECK.sentence("Promise 16", "-1 if there is none, or the way has no roads");
        PloughPlanner x = Towns.withNodes(3);
        CHECK.due("there is none", x.first(1), -1);
        CHECK.due("the way has no roads", x.first(0), -1);
        x.addRoad(0, 1, 5, 0);
        CHECK.due("road 0", x.first(1), 0);
        CHECK.due("still without roads, though one leads away and back", x.first(0), -1);
        x.go(0);
        CHECK.due("the way to where it is has no roads", x.first(1), -1);
        CHECK.due("there is none back", x.first(0), -1);
    }

    private static void firstLeastMinutes() {
        CHECK.sentence("Promise 16", "the one with the least minutes");
        PloughPlanner x = Towns.withNodes(3);
        x.addRoad(0, 2, 30, 0);
        x.addRoad(0, 1, 14, 0);
        x.addRoad(1, 2, 15, 0);
        CHECK.due("29 minutes with two roads, before 30 with one", x.first(2), 1);
        CHECK.due("way(2)", x.way(2), 29);
        PloughPlanner y = Towns.withNodes(2);
        y.setNode(1, false, true);
        y.addRoad(0, 1, 10, 0);
        y.addRoad(0, 1, 13, 0);
        y.addRoad(0, 1, 11, 0);
        y.go(0);
        CHECK.due("11 minutes, before 10 and 2 for a turn", y.first(0), 2);
    }

    private static void firstFewestRoads() {
        CHECK.sentence("Promise 16", "of several the one with the fewest roads");
        PloughPlanner x = Towns.withNodes(4);
        x.addRoad(0, 1, 10, 0);
        x.addRoad(1, 2, 10, 0);
        x.addRoad(2, 3, 10, 0);
        x.addRoad(0, 3, 30, 0);
        CHECK.due("30 minutes with one road, before 30 with three", x.first(3), 3);
        x.addNode(false, false);
        x.addRoad(0, 4, 1, 0);
        x.addRoad(4, 3, 29, 0);
        CHECK.due("nor does a way with two roads change it", x.first(3), 3);
        PloughPlanner y = Towns.withNodes(2);
        y.setNode(1, false, true);
        y.addRoad(0, 1, 10, 0);
        y.addRoad(0, 1, 12, 0);
        y.go(0);
        CHECK.due("10 and 2 for a turn, or 12: one road each, so the smallest", y.first(0), 0);
        PloughPlanner z = Towns.withNodes(2);
        z.setNode(1, false, true);
        z.addRoad(0, 1, 12, 0);
        z.addRoad(0, 1, 10, 0);
        z.go(1);
        CHECK.due("12, or 10 and 2 for a turn: one road each, so the smallest", z.first(0), 0);
    }

    private static void firstSmallestFirstRoad() {
        CHECK.sentence("Promise 16", "of several the one whose first road has the smallest number");
        PloughPlanner x = Towns.withNodes(4);
        x.addRoad(2, 3, 5, 0);
        x.addRoad(0, 1, 5, 0);
        x.addRoad(0, 2, 5, 0);
        x.addRoad(1, 3, 5, 0);
        CHECK.due("1 and 3 before 2 and 0", x.first(3), 1);
        PloughPlanner y = Towns.withNodes(2);
        for (int road = 0; road < 12; road++) {
            y.addRoad(1, 0, 5, 0);
        }
        CHECK.due("of twelve the first", y.first(1), 0);
        y.go(0);
        CHECK.due("but the one by which it came, which is none", y.first(0), 1);
    }

    private static void firstSmallestSecondRoad() {
        CHECK.sentence("Promises 16 and 20", "then the one whose second road has, and so on");
        PloughPlanner x = Towns.withNodes(5);
        x.addRoad(0, 1, 1, 2);
        x.addRoad(2, 3, 1, 2);
        x.addRoad(1, 2, 1, 2);
        x.addRoad(1, 2, 1, 2);
        x.addRoad(2, 3, 1, 2);
        x.addRoad(3, 4, 1, 0);
        x.snow(60);
        CHECK.due("side 0 of road 5", x.next(), 10);
        CHECK.due("four roads, all deep", x.clear(1), 8);
        CHECK.due("by road 2", x.depth(2, 0), 0);
        CHECK.due("not by road 3", x.depth(3, 0), 60);
        CHECK.due("by road 1", x.depth(1, 0), 0);
        CHECK.due("not by road 4", x.depth(4, 0), 60);
        PloughPlanner y = Towns.withNodes(5);
        y.addRoad(0, 1, 1, 2);
        y.addRoad(3, 4, 1, 2);
        y.addRoad(1, 2, 1, 2);
        y.addRoad(1, 3, 1, 2);
        y.addRoad(2, 4, 1, 2);
        y.addRoad(4, 0, 30, 0);
        y.snow(60);
        y.setNode(0, false, false);
        y.strew(false);
        CHECK.due("the next side is the short one behind node 0", y.next(), 11);
        y.addNode(false, false);
        y.addRoad(4, 5, 1, 0);
        y.snow(60);
        CHECK.due("or side 0 of road 6, which is nearer", y.next(), 12);
        y.clear(1);
        CHECK.due("0, 2, 4 before 0, 3, 1", y.depth(2, 0), 0);
        CHECK.due("not by road 3", y.depth(3, 0), 120);
        CHECK.due("though road 1 has a smaller number than road 4", y.depth(1, 0), 120);
    }

    // ---- promises 17 and 18

    private static void sideNoSuchSide() {
        CHECK.sentence("Promises 17 and 18", "IndexOutOfBoundsException if there is no such road, or side is not 0 or 1");
        PloughPlanner x = Towns.full();
        CHECK.due("wayToSide(0, 0)", x.wayToSide(0, 0), 1);
        CHECK.due("firstToSide(0, 0)", x.firstToSide(0, 0), 0);
        CHECK.due("wayToSide(11, 1)", x.wayToSide(11, 1), 1 + 2 + 3 + 4 + 12);
        CHECK.due("firstToSide(11, 1)", x.firstToSide(11, 1), 0);
        int[][] wrong = {{-1, 0}, {-1, 1}, {12, 0}, {12, 1}, {MIN, 0}, {MAX, 0}, {1 << 30, 0}, {1 << 31, 1},
            {0, -1}, {0, 2}, {11, -1}, {11, 2}, {0, MIN}, {0, MAX}, {1, -2}, {-1, 2}, {-1, -1}, {12, 2}};
        for (int[] pair : wrong) {
            String arguments = "(" + pair[0] + ", " + pair[1] + ")";
            CHECK.dueThrowWithoutChange("wayToSide" + arguments, INDEX, x, () -> x.wayToSide(pair[0], pair[1]));
            CHECK.dueThrowWithoutChange("firstToSide" + arguments, INDEX, x, () -> x.firstToSide(pair[0], pair[1]));
        }
    }

    private static void sideNone() {
        CHECK.sentence("Promises 17 and 18", "-1 if there is none");
        PloughPlanner x = Towns.withNodes(3);
        x.addRoad(1, 2, 5, 0);
        for (int side = 0; side < 2; side++) {
            CHECK.due("no road from where it is, side " + side, x.wayToSide(0, side), -1);
            CHECK.due("no first one, side " + side, x.firstToSide(0, side), -1);
        }
        x.addRoad(0, 1, 5, 0);
        CHECK.due("side 0 of road 0", x.wayToSide(0, 0), 10);
        CHECK.due("side 1 of road 0 would need a turn at node 2", x.wayToSide(0, 1), -1);
        CHECK.due("no first one", x.firstToSide(0, 1), -1);
        x.setNode(2, false, true);
        CHECK.due("with this turn", x.wayToSide(0, 1), 5 + 5 + 2 + 5);
        CHECK.due("its first one", x.firstToSide(0, 1), 1);
    }

    private static void sideIsTheLastOne() {
        CHECK.sentence("Promise 17", "A way to a side has this side as its last one");
        PloughPlanner x = Towns.withNodes(2);
        x.addRoad(0, 1, 5, 0);
        x.addRoad(1, 0, 7, 0);
        CHECK.due("side 0 of road 0, from 0 to 1", x.wayToSide(0, 0), 5);
        CHECK.due("side 1 of road 0, from 1 to 0", x.wayToSide(0, 1), 7 + 5);
        CHECK.due("side 0 of road 1, from 1 to 0", x.wayToSide(1, 0), 5 + 7);
        CHECK.due("side 1 of road 1, from 0 to 1", x.wayToSide(1, 1), 7);
        CHECK.due("first to side 1 of road 0", x.firstToSide(0, 1), 1);
        CHECK.due("first to side 0 of road 1", x.firstToSide(1, 0), 0);
    }

    private static void sideWhereItIs() {
        CHECK.sentence("Promises 17 and 18", "A way to a side has this side as its last one");
        PloughPlanner x = Towns.withRoad(5);
        x.go(0);
        CHECK.due("the side that it came by: back, and a turn", x.wayToSide(0, 0), 7 + 7);
        CHECK.due("its first road", x.firstToSide(0, 0), 0);
        CHECK.due("the other side: a turn", x.wayToSide(0, 1), 7);
        x.setNode(0, false, false);
        CHECK.due("no turn at node 0", x.wayToSide(0, 0), -1);
        CHECK.due("no first road any longer", x.firstToSide(0, 0), -1);
        x.setNode(1, false, false);
        CHECK.due("no turn at node 1", x.wayToSide(0, 1), -1);
        CHECK.due("no first road any longer", x.firstToSide(0, 1), -1);
    }

    private static void sideTwiceTheSameRoad() {
        CHECK.sentence("Promise 17", "A way of the plough is a row of roads by which it can go, one after the other");
        PloughPlanner x = Towns.withNodes(4);
        x.setNode(0, false, false);
        x.addRoad(0, 1, 1, 0);
        x.addRoad(1, 2, 2, 0);
        x.addRoad(2, 3, 3, 0);
        x.addRoad(3, 1, 4, 0);
        CHECK.due("round by 1, 2, 3 and by road 0 again", x.wayToSide(0, 1), 1 + 2 + 3 + 4 + 1);
        CHECK.due("its first road", x.firstToSide(0, 1), 0);
        x.setNode(3, false, true);
        CHECK.due("a turn at node 3 is no shorter", x.wayToSide(0, 1), 11);
        x.setNode(2, false, true);
        CHECK.due("a turn at node 2 is", x.wayToSide(0, 1), 1 + 2 + 2 + 2 + 1);
    }

    private static void firstToSideOfEqualWays() {
        CHECK.sentence("Promise 18", "the one with the fewest roads; of several the one whose first road has the smallest number");
        PloughPlanner x = Towns.withNodes(4);
        x.addRoad(0, 1, 2, 0);
        x.addRoad(1, 2, 2, 0);
        x.addRoad(0, 2, 4, 0);
        x.addRoad(2, 3, 1, 0);
        CHECK.due("2 and 3, before 0, 1 and 3", x.firstToSide(3, 0), 2);
        CHECK.due("5 minutes", x.wayToSide(3, 0), 5);
        PloughPlanner y = Towns.withNodes(4);
        y.addRoad(2, 3, 2, 0);
        y.addRoad(0, 1, 2, 0);
        y.addRoad(0, 2, 2, 0);
        y.addRoad(1, 3, 2, 0);
        y.addNode(false, false);
        y.addRoad(3, 4, 1, 0);
        CHECK.due("1, 3, 4 before 2, 0, 4", y.firstToSide(4, 0), 1);
    }

    // ---- promise 19

    private static void nextNone() {
        CHECK.sentence("Promise 19", "-1 if there is none");
        CHECK.due("a new object", new PloughPlanner().next(), -1);
        CHECK.due("without snow", Towns.full().next(), -1);
        PloughPlanner x = Towns.withRoad(5);
        x.snow(49);
        CHECK.due("too little snow", x.next(), -1);
        PloughPlanner y = Towns.withNodes(3);
        y.addRoad(1, 2, 5, 0);
        y.snow(300);
        CHECK.due("no way", y.next(), -1);
    }

    private static void nextFromFifty() {
        CHECK.sentence("Promise 19", "of all sides with 50 millimetres or more");
        CHECK.due("49 millimetres", Towns.withSnow(5, 49).next(), -1);
        CHECK.due("50 millimetres", Towns.withSnow(5, 50).next(), 0);
        CHECK.due("999 millimetres", Towns.withSnow(5, 999).next(), 0);
        PloughPlanner x = Towns.withSnow(5, 33);
        x.go(0);
        CHECK.due("49 on side 1", x.next(), -1);
        PloughPlanner y = Towns.withSnow(5, 34);
        y.go(0);
        CHECK.due("51 on side 1", y.next(), 1);
    }

    private static void nextOnlyWithAWay() {
        CHECK.sentence("Promise 19", "to which there is a way");
        PloughPlanner x = Towns.withNodes(4);
        x.addRoad(2, 3, 1, 0);
        x.addRoad(0, 1, 30, 2);
        x.snow(300);
        CHECK.due("road 0 is first by priority, but has no way", x.next(), 2);
        x.go(1);
        CHECK.due("side 1 of road 1 would need a turn", x.next(), -1);
        x.setNode(1, false, true);
        CHECK.due("with this turn", x.next(), 3);
    }

    private static void nextLeastPriority() {
        CHECK.sentence("Promise 19", "one with the least priority (0 first)");
        PloughPlanner x = Towns.withNodes(4);
        x.addRoad(0, 1, 1, 2);
        x.addRoad(0, 2, 2, 1);
        x.addRoad(2, 3, 30, 0);
        x.snow(60);
        CHECK.due("priority 0, though 32 minutes away", x.next(), 4);
        PloughPlanner y = Towns.withNodes(3);
        y.addRoad(0, 1, 1, 2);
        y.addRoad(0, 2, 30, 1);
        y.snow(60);
        CHECK.due("priority 1 before priority 2", y.next(), 2);
        PloughPlanner z = Towns.withNodes(3);
        z.addRoad(0, 1, 5, 1);
        z.snow(300);
        z.addRoad(0, 2, 5, 0);
        z.snow(49);
        CHECK.due("priority 0 has only 49 millimetres", z.next(), 0);
        z.snow(1);
        CHECK.due("50 on priority 0, before 350 on priority 1", z.next(), 2);
    }

    private static void nextLeastMinutes() {
        CHECK.sentence("Promise 19", "of several the one whose way has the least minutes");
        PloughPlanner x = Towns.withNodes(3);
        x.addRoad(0, 1, 6, 1);
        x.addRoad(0, 2, 5, 1);
        x.snow(60);
        CHECK.due("5 minutes before 6", x.next(), 2);
        PloughPlanner y = Towns.withNodes(3);
        y.setNode(1, false, true);
        y.addRoad(0, 1, 5, 1);
        y.addRoad(1, 2, 6, 1);
        y.snow(60);
        y.go(0);
        CHECK.due("6 minutes before 5 and 2 for a turn", y.next(), 2);
        PloughPlanner z = Towns.withNodes(3);
        z.addRoad(0, 1, 1, 2);
        z.addRoad(1, 2, 4, 1);
        z.addRoad(0, 2, 6, 1);
        z.addRoad(0, 2, 5, 1);
        z.snow(60);
        CHECK.due("5 minutes with two roads, as 5 with one: the number decides, not the roads", z.next(), 2);
    }

    private static void nextSmallestNumber() {
        CHECK.sentence("Promise 19", "of several the one for which 2 * its road + its number is smallest");
        PloughPlanner x = Towns.withNodes(3);
        x.addRoad(1, 2, 3, 0);
        x.addRoad(0, 1, 4, 2);
        x.addRoad(0, 2, 4, 2);
        x.snow(60);
        CHECK.due("side 0 and side 1 of road 0, both 7 minutes away", x.next(), 0);
        PloughPlanner y = Towns.withNodes(2);
        y.addRoad(1, 0, 5, 0);
        y.addRoad(0, 1, 5, 0);
        y.snow(60);
        CHECK.due("side 1 of road 0 before side 0 of road 1", y.next(), 1);
        PloughPlanner z = Towns.withNodes(2);
        for (int road = 0; road < 11; road++) {
            z.addRoad(0, 1, 5, 1);
        }
        z.addRoad(1, 0, 5, 0);
        z.snow(60);
        CHECK.due("the greatest number there is", z.next(), 23);
        nextSmallestNumberThoughNotDeepest();
    }

    private static void nextSmallestNumberThoughNotDeepest() {
        PloughPlanner x = Towns.withNodes(2);
        for (int road = 0; road < 3; road++) {
            x.addRoad(0, 1, 5, 1);
        }
        x.snow(300);
        x.go(0);
        x.go(2);
        x.snow(100);
        CHECK.due("salted side 0 of road 0", x.depth(0, 0), 50);
        CHECK.due("side 0 of road 1", x.depth(1, 0), 400);
        CHECK.due("both 5 minutes away: the snow does not decide", x.next(), 0);
    }

    // ---- promise 20

    private static void clearOutsideItsBounds() {
        CHECK.sentence("Promise 20", "IllegalArgumentException if limit is not 0 to 300");
        PloughPlanner x = Towns.withSnow(5, 300);
        for (int limit : new int[] {-1, -2, 301, 302, MIN, MAX}) {
            CHECK.dueThrowWithoutChange("clear(" + limit + ")", ARGUMENT, x, () -> x.clear(limit));
        }
        CHECK.due("clear(0)", x.clear(0), 0);
        CHECK.due("clear(300)", x.clear(300), 10 + 12 + 12 + 12 + 12);
        PloughPlanner y = new PloughPlanner();
        CHECK.dueThrowWithoutChange("clear(-1) without roads", ARGUMENT, y, () -> y.clear(-1));
        CHECK.dueThrowWithoutChange("clear(301) without roads", ARGUMENT, y, () -> y.clear(301));
    }

    private static void clearWithLimitZero() {
        CHECK.sentence("Promise 20", "the minutes of this clearing are less than the limit");
        PloughPlanner x = Towns.withSnow(5, 300);
        long before = x.digest();
        CHECK.due("0 minutes are not less than 0", x.clear(0), 0);
        CHECK.due("digest()", x.digest(), before);
        CHECK.due("0 minutes are less than 1", x.clear(1), 10);
    }

    private static void clearWithoutNextSide() {
        CHECK.sentence("Promise 20", "As long as there is a next side");
        PloughPlanner[] planners = {new PloughPlanner(), Towns.full(), Towns.withSnow(5, 49)};
        for (PloughPlanner x : planners) {
            long before = x.digest();
            CHECK.due("clear(300)", x.clear(300), 0);
            CHECK.due("digest()", x.digest(), before);
        }
        PloughPlanner y = Towns.withSnow(5, 50);
        CHECK.due("50 millimetres, and then 75 on the other side", y.clear(300), 10 + 12);
        CHECK.due("37 are left", y.depth(0, 0), 37);
        CHECK.due("clear(300) again", y.clear(300), 0);
    }

    private static void clearLessThanTheLimit() {
        CHECK.sentence("Promise 20", "the minutes of this clearing are less than the limit");
        int[][] minutes = {{1, 10}, {9, 10}, {10, 10}, {11, 22}, {21, 22}, {22, 22}, {23, 34}, {34, 34}, {35, 46}};
        for (int[] limit : minutes) {
            PloughPlanner x = Towns.withSnow(5, 300);
            CHECK.due("clear(" + limit[0] + ")", x.clear(limit[0]), limit[1]);
            CHECK.due("total(0)", x.total(0), limit[1]);
        }
        PloughPlanner y = Towns.withSnow(5, 300);
        y.clear(10);
        CHECK.due("only the minutes of this clearing: 0 at its start", y.clear(10), 12);
    }

    private static void clearWithTheGreatestLimit() {
        CHECK.sentence("Promise 20", "Clears, with a limit of minutes");
        PloughPlanner x = Towns.withNodes(2);
        for (int road = 0; road < 12; road++) {
            x.addRoad(0, 1, 25, 0);
        }
        x.strew(false);
        Towns.letItSnow(x, 999);
        CHECK.due("six roads of 50 minutes are not less than 300", x.clear(300), 300);
        CHECK.due("six roads", x.total(3), 6);
        CHECK.due("six more, and no more than the limit before the last", x.clear(299), 300);
        PloughPlanner y = Towns.withNodes(2);
        y.addRoad(0, 1, 30, 0);
        y.setNode(1, false, true);
        Towns.letItSnow(y, 999);
        y.strew(false);
        CHECK.due("60 and four times 62", y.clear(300), 60 + 4 * 62);
    }

    private static void clearFillsOnlyWithLessSalt() {
        CHECK.sentence("Promise 20", "has less salt than the road of the next side has minutes");
        PloughPlanner x = Towns.withSaltLeft(15);
        x.setNode(0, true, true);
        x.snow(60);
        CHECK.due("15 of salt for 15 minutes: no filling", x.clear(1), 30);
        CHECK.due("salt", x.plough(2), 0);
        CHECK.due("salted", x.isSalted(0, 0), true);
        for (int salt : new int[] {14, 1, 0}) {
            PloughPlanner y = Towns.withSaltLeft(salt);
            y.setNode(0, true, true);
            y.snow(60);
            CHECK.due(salt + " of salt for 15 minutes: filling", y.clear(1), 4 + 30);
            CHECK.due("salt", y.plough(2), 105);
            CHECK.due("salted", y.isSalted(0, 0), true);
        }
    }

    private static void clearFillsOnlyWhenStrewing() {
        CHECK.sentence("Promise 20", "if the plough strews");
        PloughPlanner x = Towns.withSaltLeft(0);
        x.setNode(0, true, true);
        x.snow(60);
        x.strew(false);
        CHECK.due("no filling", x.clear(1), 30);
        CHECK.due("salt", x.plough(2), 0);
    }

    private static void clearFillsOnlyWithAWayToAStore() {
        CHECK.sentence("Promise 20", "and there is a way to a store");
        PloughPlanner x = Towns.withSaltLeft(14);
        x.snow(60);
        CHECK.due("no store at all", x.clear(1), 30);
        CHECK.due("salt", x.plough(2), 14);
        CHECK.due("not salted", x.isSalted(0, 0), false);
        CHECK.due("cleared all the same", x.depth(0, 0), 0);
        PloughPlanner y = Towns.withSaltLeft(14);
        y.addNode(true, true);
        y.snow(60);
        CHECK.due("no way to the store", y.clear(1), 30);
        CHECK.due("salt", y.plough(2), 14);
        PloughPlanner z = Towns.withSaltLeft(14);
        z.addNode(true, true);
        z.addRoad(2, 0, 1, 2);
        z.snow(60);
        CHECK.due("a way of 2 minutes to it, 4 there, 2 and 2 back, and 30", z.clear(1), 2 + 4 + 4 + 30);
        CHECK.due("salt of road 2, on its way back, and of road 0", z.plough(2), 120 - 1 - 15);
    }

    private static void clearFillsWhereItStands() {
        CHECK.sentence("Promise 20", "if the plough is there, the way without roads is one");
        PloughPlanner x = Towns.withSaltLeft(14);
        x.setNode(0, true, true);
        x.setNode(1, true, true);
        x.snow(60);
        long roads = x.total(3);
        long turns = x.total(2);
        long strewn = x.total(1);
        CHECK.due("0 minutes to the store at node 0", x.clear(1), 4 + 30);
        CHECK.due("one road", x.total(3), roads + 1);
        CHECK.due("no turn", x.total(2), turns);
        CHECK.due("salt of one road", x.total(1), strewn + 15);
    }

    /** As Towns.withSaltLeft(14), with the stores 2 and 3 beside node 0, so many minutes away by roads 2 and 3. */
    private static PloughPlanner betweenStores(int toThree, int toTwo) {
        PloughPlanner x = Towns.withSaltLeft(14);
        x.addNode(true, true);
        x.addNode(true, true);
        x.addRoad(0, 3, toThree, 2);
        x.addRoad(0, 2, toTwo, 2);
        return x;
    }

    private static void clearGoesToTheNearestStore() {
        CHECK.sentence("Promise 20", "the way to the store for which this has the least minutes");
        PloughPlanner x = betweenStores(4, 5);
        x.snow(60);
        CHECK.due("8 to store 3, 4 there, 8 and 2 back, and 30", x.clear(1), 8 + 4 + 10 + 30);
        CHECK.due("road 2 gone on side 1", x.depth(2, 1), 0);
        CHECK.due("road 3 not gone", x.depth(3, 0), 60);
        PloughPlanner y = betweenStores(5, 4);
        y.snow(60);
        CHECK.due("8 to store 2, 4 there, 8 and 2 back, and 30", y.clear(1), 8 + 4 + 10 + 30);
        CHECK.due("road 3 gone on side 1", y.depth(3, 1), 0);
        CHECK.due("road 2 not gone", y.depth(2, 0), 60);
        PloughPlanner z = betweenStores(2, 4);
        z.snow(60);
        z.addRoad(0, 2, 3, 2);
        z.strew(false);
        z.go(2);
        z.go(2);
        z.strew(true);
        CHECK.due("3 to store 2, before 2 and 2 for a turn to store 3; back by road 3", z.clear(1), 3 + 4 + 8 + 30);
        CHECK.due("salt of road 3 and of road 0", z.plough(2), 120 - 4 - 15);
    }

    private static void clearGoesToTheStoreWithTheSmallestNumber() {
        CHECK.sentence("Promise 20", "(of several the one with the smallest number)");
        PloughPlanner x = betweenStores(5, 5);
        x.snow(60);
        CHECK.due("10 to store 2, 4 there, 10 and 2 back, and 30", x.clear(1), 10 + 4 + 12 + 30);
        CHECK.due("road 3 gone, which leads to store 2", x.depth(3, 1), 0);
        CHECK.due("road 2 not gone, though its number is smaller", x.depth(2, 0), 60);
    }

    private static void clearLooksAnewAfterFilling() {
        CHECK.sentence("Promise 20", "then the next side is looked for anew");
        PloughPlanner x = betweenStores(6, 5);
        x.addNode(false, false);
        x.addRoad(2, 4, 11, 0);
        x.snow(60);
        CHECK.due("15 minutes to road 0, 16 to road 4", x.next(), 0);
        CHECK.due("from store 2, 11 to road 4", x.clear(1), 10 + 4 + 22);
        CHECK.due("road 4 is cleared", x.depth(4, 0), 0);
        CHECK.due("road 0 is not", x.depth(0, 0), 60);
        CHECK.due("its node", x.plough(0), 4);
    }

    private static void clearHasNoNextSideAfterFilling() {
        CHECK.sentence("Promise 20", "(if there is one)");
        PloughPlanner x = Towns.withSaltLeft(14);
        x.setNode(0, true, true);
        x.addNode(true, false);
        x.addRoad(0, 2, 30, 0);
        x.snow(40);
        x.strew(false);
        x.go(2);
        x.strew(true);
        CHECK.due("the only deep side, which leads to the store", x.next(), 5);
        CHECK.due("60 and 2 for a turn, and 4 there", x.clear(300), 62 + 4);
        CHECK.due("full", x.plough(2), 120);
        CHECK.due("its node", x.plough(0), 0);
        CHECK.due("cleared on the way", x.depth(2, 1), 0);
        CHECK.due("not salted, 14 being less than 30", x.isSalted(2, 1), false);
        CHECK.due("no next side", x.next(), -1);
    }

    private static void clearCountsFillingAgainstTheLimit() {
        CHECK.sentence("Promise 20", "The minutes that are counted are those that it takes, with the snow and with filling up");
        int[][] minutes = {{31, 34}, {34, 34}, {35, 34 + 32}};
        for (int[] limit : minutes) {
            PloughPlanner x = Towns.withSaltLeft(14);
            x.setNode(0, true, true);
            x.snow(60);
            long before = x.total(0);
            CHECK.due("clear(" + limit[0] + ")", x.clear(limit[0]), limit[1]);
            CHECK.due("total(0)", x.total(0), before + limit[1]);
        }
    }

    private static void clearGoesOnAfterFillingOverTheLimit() {
        CHECK.sentence("Promise 20", "Then it goes the way to the next side");
        for (int limit = 1; limit <= 5; limit++) {
            PloughPlanner x = Towns.withSaltLeft(14);
            x.setNode(0, true, true);
            x.snow(60);
            CHECK.due("clear(" + limit + "), 4 of it for filling up", x.clear(limit), 4 + 30);
        }
    }

    private static void clearGoesWithAllThatGoingDoes() {
        CHECK.sentence("Promise 20", "with all that going does");
        PloughPlanner x = Towns.withNodes(3);
        x.addRoad(0, 1, 3, 2);
        x.addRoad(1, 2, 4, 0);
        x.snow(60);
        CHECK.due("two roads, both deep", x.clear(1), 14);
        CHECK.due("cleared", x.depth(0, 0) + x.depth(1, 0), 0);
        CHECK.due("pushed", x.depth(0, 1), 90);
        CHECK.due("salted", x.isSalted(0, 0) && x.isSalted(1, 0), true);
        CHECK.due("node", x.plough(0), 2);
        CHECK.due("road", x.plough(1), 1);
        CHECK.due("salt", x.plough(2), 113);
        CHECK.due("minutes", x.total(0), 14);
        CHECK.due("strewn", x.total(1), 7);
        CHECK.due("turns", x.total(2), 0);
        CHECK.due("roads", x.total(3), 2);
    }
}
