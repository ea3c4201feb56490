/** Promises 1 to 10 at their edges: each test names the promise and the words of the document that it holds to. */
public final class EdgesOfTownTest {
    private static final Class<IndexOutOfBoundsException> INDEX = IndexOutOfBoundsException.class;
    private static final Class<IllegalArgumentException> ARGUMENT = IllegalArgumentException.class;
    private static final Class<IllegalStateException> STATE = IllegalStateException.class;
    private static final int MIN = Integer.MIN_VALUE;
    private static final int MAX = Integer.MAX_VALUE;
    private static final Check CHECK = new Check();

    public static void main(String[] args) {
        newObjectHasNodeZeroAlone();
        newObjectHasNoRoads();
        newObjectHasNodeZeroAsBoth();
        newObjectsAreApart();
        addNodeNumbers();
        addNodeUpToEight();
        addNodeRefusedChangesNothing();
        setNodeNoSuchNode();
        setNodeGrowsWithTheNodes();
        setNodeToldBefore();
        addRoadNumbersUpToTwelve();
        addRoadThirteenth();
        addRoadNoSuchNode();
        addRoadSameEnds();
        addRoadMinutes();
        addRoadPriority();
        addRoadSeveralBetweenTheSameNodes();
        addRoadOrderIndexFirst();
        addRoadOrderArgumentBeforeState();
        addRoadIsBareAtFirst();
        snowOutsideItsBounds();
        snowWithoutRoads();
        snowTellsTheGreatest();
        snowNeverMoreThan999();
        snowHalfOnSalt();
        snowHalfOnTheMostThatLiesOnSalt();
        snowTakesTheSaltAway();
        depthNoSuchSide();
        depthFromZeroTo999();
        isSaltedNoSuchSide();
        isSaltedNotAtFirst();
        worstOutsideItsBounds();
        worstWithoutSuchRoad();
        worstOnEitherSide();
        reachNoSuchNode();
        reachItselfAlone();
        reachThreeHundred();
        reachOneAfterTheOther();
        bareWithoutSides();
        bareAllAndNone();
        bareOneOfTwentyFour();
        CHECK.end();
    }

    // ---- promise 1

    private static void newObjectHasNodeZeroAlone() {
        CHECK.sentence("Promise 1", "Creates a planner with node 0 alone");
        PloughPlanner x = new PloughPlanner();
        CHECK.due("digest()", x.digest(), Towns.sum(1, 3, 0, 0, -1, 120, 1, 0, 0, 0, 0));
        CHECK.due("reach(0)", x.reach(0), 1);
        CHECK.dueThrowWithoutChange("reach(1)", INDEX, x, () -> x.reach(1));
        CHECK.dueThrow("setNode(1, true, true)", INDEX, () -> x.setNode(1, true, true));
        CHECK.dueThrow("addRoad(0, 1, 1, 0)", INDEX, () -> x.addRoad(0, 1, 1, 0));
        CHECK.dueThrow("addRoad(0, 0, 1, 0)", ARGUMENT, () -> x.addRoad(0, 0, 1, 0));
        CHECK.due("addNode()", x.addNode(false, false), 1);
    }

    private static void newObjectHasNoRoads() {
        CHECK.sentence("Promise 1", "without roads");
        PloughPlanner x = new PloughPlanner();
        CHECK.dueThrowWithoutChange("depth(0, 0)", INDEX, x, () -> x.depth(0, 0));
        CHECK.dueThrowWithoutChange("isSalted(0, 1)", INDEX, x, () -> x.isSalted(0, 1));
        CHECK.dueThrow("go(0)", INDEX, () -> x.go(0));
        CHECK.dueThrow("wayToSide(0, 0)", INDEX, () -> x.wayToSide(0, 0));
        CHECK.dueThrow("firstToSide(0, 0)", INDEX, () -> x.firstToSide(0, 0));
        CHECK.due("next()", x.next(), -1);
        CHECK.due("clear(300)", x.clear(300), 0);
        for (int priority = 0; priority <= 2; priority++) {
            CHECK.due("worst(" + priority + ")", x.worst(priority), -1);
        }
    }

    private static void newObjectHasNodeZeroAsBoth() {
        CHECK.sentence("Promise 1", "(node 0 is both, at first)");
        PloughPlanner x = new PloughPlanner();
        CHECK.due("setNode(0, false, false)", x.setNode(0, false, false), true);
        CHECK.due("setNode(0, true, false)", x.setNode(0, true, false), true);
        CHECK.due("setNode(0, false, false)", x.setNode(0, false, false), false);
        CHECK.due("setNode(0, true, false)", x.setNode(0, true, false), false);
    }

    private static void newObjectsAreApart() {
        CHECK.sentence("Promise 1", "Creates a planner");
        PloughPlanner x = Towns.full();
        x.snow(300);
        x.go(0);
        x.strew(false);
        PloughPlanner y = new PloughPlanner();
        CHECK.due("digest()", y.digest(), Towns.sum(1, 3, 0, 0, -1, 120, 1, 0, 0, 0, 0));
    }

    // ---- promise 2

    private static void addNodeNumbers() {
        CHECK.sentence("Promise 2", "numbered from 0 in the order of their creation; node 0 is there from the beginning on");
        PloughPlanner x = new PloughPlanner();
        for (int node = 1; node <= 7; node++) {
            int next = node;
            CHECK.dueThrow("way(" + node + ") before", INDEX, () -> x.way(next));
            CHECK.due("addNode()", x.addNode(node % 2 == 0, node % 3 == 0), node);
            CHECK.due("way(" + node + ") then", x.way(node), -1);
        }
    }

    private static void addNodeUpToEight() {
        CHECK.sentence("Promise 2", "IllegalStateException if there are 8 nodes");
        PloughPlanner x = Towns.withNodes(7);
        CHECK.due("addNode(), the eighth", x.addNode(true, true), 7);
        CHECK.dueThrow("addNode(true, true), the ninth", STATE, () -> x.addNode(true, true));
        CHECK.dueThrow("addNode(false, true)", STATE, () -> x.addNode(false, true));
        CHECK.dueThrow("addNode(true, false)", STATE, () -> x.addNode(true, false));
        CHECK.dueThrow("addNode(false, false)", STATE, () -> x.addNode(false, false));
    }

    private static void addNodeRefusedChangesNothing() {
        CHECK.sentence("Promise 2", "A method that throws an exception changes nothing");
        PloughPlanner x = Towns.withNodes(8);
        CHECK.dueThrowWithoutChange("addNode(true, true)", STATE, x, () -> x.addNode(true, true));
        CHECK.dueThrow("way(8)", INDEX, () -> x.way(8));
        CHECK.due("node 7 is no turning place", x.setNode(7, false, false), false);
        CHECK.due("node 7 is no store", x.setNode(7, true, false), false);
        CHECK.due("node 0 is a turning place", x.setNode(0, false, true), true);
    }

    // ---- promise 3

    private static void setNodeNoSuchNode() {
        CHECK.sentence("Promise 3", "IndexOutOfBoundsException if there is no such node");
        PloughPlanner x = Towns.withNodes(8);
        for (int node : new int[] {-1, 8, 9, MIN, MAX}) {
            CHECK.dueThrowWithoutChange("setNode(" + node + ", true, true)", INDEX, x, () -> x.setNode(node, true, true));
            CHECK.dueThrowWithoutChange("setNode(" + node + ", false, true)", INDEX, x, () -> x.setNode(node, false, true));
            CHECK.dueThrowWithoutChange("setNode(" + node + ", true, false)", INDEX, x, () -> x.setNode(node, true, false));
        }
        CHECK.due("the first", x.setNode(0, true, true), true);
        CHECK.due("the last", x.setNode(7, true, true), false);
    }

    private static void setNodeGrowsWithTheNodes() {
        CHECK.sentence("Promise 3", "IndexOutOfBoundsException if there is no such node");
        PloughPlanner x = Towns.withNodes(3);
        CHECK.dueThrowWithoutChange("setNode(3, false, true)", INDEX, x, () -> x.setNode(3, false, true));
        x.addNode(false, true);
        CHECK.due("not a turning place by the refused call", x.setNode(3, false, true), false);
        CHECK.due("a store by addNode", x.setNode(3, true, true), true);
    }

    private static void setNodeToldBefore() {
        CHECK.sentence("Promise 3", "Returns whether it was one before");
        PloughPlanner x = Towns.withNodes(2);
        CHECK.due("off to off", x.setNode(1, true, false), false);
        CHECK.due("off to on", x.setNode(1, true, true), false);
        CHECK.due("on to on", x.setNode(1, true, true), true);
        CHECK.due("the other kind", x.setNode(1, false, false), false);
        CHECK.due("on to off", x.setNode(1, true, false), true);
        CHECK.due("digest()", x.digest(), Towns.sum(2, 3, 0, 0, 0, -1, 120, 1, 0, 0, 0, 0));
    }

    // ---- promise 4

    private static void addRoadNumbersUpToTwelve() {
        CHECK.sentence("Promise 4", "There are at most 12 roads, numbered from 0 in the order of their creation");
        PloughPlanner x = Towns.withNodes(3);
        for (int road = 0; road <= 11; road++) {
            int next = road;
            CHECK.dueThrowWithoutChange("depth(" + road + ", 1) before", INDEX, x, () -> x.depth(next, 1));
            CHECK.due("addRoad()", x.addRoad(road % 3, (road + 1) % 3, 1 + road, road % 3), road);
            CHECK.due("depth(" + road + ", 1) then", x.depth(road, 1), 0);
        }
    }

    private static void addRoadThirteenth() {
        CHECK.sentence("Promise 4", "IllegalStateException if there are 12 roads");
        PloughPlanner x = Towns.full();
        CHECK.dueThrowWithoutChange("addRoad(0, 1, 1, 0)", STATE, x, () -> x.addRoad(0, 1, 1, 0));
        CHECK.dueThrowWithoutChange("addRoad(7, 6, 30, 2)", STATE, x, () -> x.addRoad(7, 6, 30, 2));
        CHECK.dueThrowWithoutChange("depth(12, 0)", INDEX, x, () -> x.depth(12, 0));
        CHECK.due("the last road is as it was", x.wayToSide(11, 0), 1 + 2 + 3 + 12);
    }

    private static void addRoadNoSuchNode() {
        CHECK.sentence("Promise 4", "IndexOutOfBoundsException if there is no such node");
        PloughPlanner x = Towns.withNodes(8);
        for (int node : new int[] {-1, 8, 9, MIN, MAX}) {
            CHECK.dueThrowWithoutChange("addRoad(" + node + ", 0, 1, 0)", INDEX, x, () -> x.addRoad(node, 0, 1, 0));
            CHECK.dueThrowWithoutChange("addRoad(7, " + node + ", 1, 0)", INDEX, x, () -> x.addRoad(7, node, 1, 0));
        }
        CHECK.due("the first and the last node", x.addRoad(0, 7, 1, 0), 0);
        CHECK.due("the last and the first node", x.addRoad(7, 0, 1, 0), 1);
        PloughPlanner y = Towns.withNodes(2);
        CHECK.dueThrowWithoutChange("addRoad(0, 2, 1, 0) with two nodes", INDEX, y, () -> y.addRoad(0, 2, 1, 0));
        CHECK.dueThrowWithoutChange("addRoad(2, 0, 1, 0) with two nodes", INDEX, y, () -> y.addRoad(2, 0, 1, 0));
        y.addNode(false, false);
        CHECK.due("addRoad(0, 2, 1, 0) with three nodes", y.addRoad(0, 2, 1, 0), 0);
    }

    private static void addRoadSameEnds() {
        CHECK.sentence("Promise 4", "IllegalArgumentException if a and b are the same");
        PloughPlanner x = Towns.withNodes(8);
        for (int node = 0; node < 8; node++) {
            int same = node;
            CHECK.dueThrowWithoutChange("addRoad(" + node + ", " + node + ", 1, 0)", ARGUMENT, x,
                    () -> x.addRoad(same, same, 1, 0));
        }
        CHECK.due("addRoad(6, 7, 1, 0)", x.addRoad(6, 7, 1, 0), 0);
    }

    private static void addRoadMinutes() {
        CHECK.sentence("Promise 4", "minutes is not 1 to 30");
        PloughPlanner x = Towns.withNodes(2);
        for (int minutes : new int[] {0, -1, 31, 32, MIN, MAX}) {
            CHECK.dueThrowWithoutChange("addRoad(0, 1, " + minutes + ", 0)", ARGUMENT, x,
                    () -> x.addRoad(0, 1, minutes, 0));
        }
        CHECK.due("1 minute", x.addRoad(0, 1, 1, 0), 0);
        CHECK.due("30 minutes", x.addRoad(0, 1, 30, 0), 1);
        CHECK.due("2 minutes", x.addRoad(0, 1, 2, 0), 2);
        CHECK.due("29 minutes", x.addRoad(0, 1, 29, 0), 3);
        CHECK.due("wayToSide(0, 0)", x.wayToSide(0, 0), 1);
        CHECK.due("wayToSide(1, 0)", x.wayToSide(1, 0), 30);
    }

    private static void addRoadPriority() {
        CHECK.sentence("Promise 4", "priority is not 0 to 2");
        PloughPlanner x = Towns.withNodes(2);
        for (int priority : new int[] {-1, -2, 3, 4, MIN, MAX}) {
            CHECK.dueThrowWithoutChange("addRoad(0, 1, 1, " + priority + ")", ARGUMENT, x,
                    () -> x.addRoad(0, 1, 1, priority));
        }
        for (int priority = 0; priority <= 2; priority++) {
            CHECK.due("no such road yet", x.worst(priority), -1);
            CHECK.due("addRoad(0, 1, 1, " + priority + ")", x.addRoad(0, 1, 1, priority), priority);
            CHECK.due("one such road", x.worst(priority), 0);
        }
    }

    private static void addRoadSeveralBetweenTheSameNodes() {
        CHECK.sentence("Promise 4", "There can be several roads between the same nodes");
        PloughPlanner x = Towns.withNodes(2);
        for (int road = 0; road < 12; road++) {
            CHECK.due("addRoad()", x.addRoad(road % 2, 1 - road % 2, 5, 1), road);
        }
        x.snow(10);
        x.go(4);
        CHECK.due("the one that was gone", x.depth(4, 0), 0);
        CHECK.due("the ones beside it", x.depth(2, 0) + x.depth(6, 0), 20);
        CHECK.due("back by another one", x.go(11), 5);
        CHECK.due("from a to b, as a is node 1", x.depth(11, 0), 0);
    }

    private static void addRoadOrderIndexFirst() {
        CHECK.sentence("Promise 4", "If several exceptions apply, the one that is named first is thrown");
        PloughPlanner x = Towns.withNodes(2);
        CHECK.dueThrowWithoutChange("no node, and twice the same", INDEX, x, () -> x.addRoad(2, 2, 1, 0));
        CHECK.dueThrowWithoutChange("no node -1, and twice the same", INDEX, x, () -> x.addRoad(-1, -1, 1, 0));
        CHECK.dueThrowWithoutChange("no node a, no such minutes", INDEX, x, () -> x.addRoad(2, 0, 0, 0));
        CHECK.dueThrowWithoutChange("no node b, no such minutes", INDEX, x, () -> x.addRoad(0, 2, 31, 0));
        CHECK.dueThrowWithoutChange("no node a, no such priority", INDEX, x, () -> x.addRoad(-1, 0, 1, 3));
        CHECK.dueThrowWithoutChange("no node b, no such priority", INDEX, x, () -> x.addRoad(0, -1, 1, -1));
        PloughPlanner y = Towns.full();
        CHECK.dueThrowWithoutChange("no node a, 12 roads", INDEX, y, () -> y.addRoad(8, 0, 1, 0));
        CHECK.dueThrowWithoutChange("no node b, 12 roads", INDEX, y, () -> y.addRoad(0, -1, 1, 0));
        CHECK.dueThrowWithoutChange("all at once", INDEX, y, () -> y.addRoad(8, 8, 0, 3));
    }

    private static void addRoadOrderArgumentBeforeState() {
        CHECK.sentence("Promise 4", "If several exceptions apply, the one that is named first is thrown");
        PloughPlanner x = Towns.full();
        CHECK.dueThrowWithoutChange("the same ends, 12 roads", ARGUMENT, x, () -> x.addRoad(7, 7, 1, 0));
        CHECK.dueThrowWithoutChange("0 minutes, 12 roads", ARGUMENT, x, () -> x.addRoad(0, 1, 0, 0));
        CHECK.dueThrowWithoutChange("31 minutes, 12 roads", ARGUMENT, x, () -> x.addRoad(0, 1, 31, 0));
        CHECK.dueThrowWithoutChange("priority -1, 12 roads", ARGUMENT, x, () -> x.addRoad(0, 1, 1, -1));
        CHECK.dueThrowWithoutChange("priority 3, 12 roads", ARGUMENT, x, () -> x.addRoad(0, 1, 1, 3));
    }

    private static void addRoadIsBareAtFirst() {
        CHECK.sentence("Promise 4", "0 to 999 millimetres (0 at first), and it is salted or not (not, at first)");
        PloughPlanner x = Towns.withSnow(1, 300);
        x.go(0);
        CHECK.due("addRoad()", x.addRoad(0, 1, 1, 0), 1);
        for (int side = 0; side < 2; side++) {
            CHECK.due("depth(1, " + side + ")", x.depth(1, side), 0);
            CHECK.due("isSalted(1, " + side + ")", x.isSalted(1, side), false);
        }
    }

    // ---- promise 5

    private static void snowOutsideItsBounds() {
        CHECK.sentence("Promise 5", "IllegalArgumentException if millimetres is not 1 to 300");
        PloughPlanner x = Towns.withRoad(1);
        for (int millimetres : new int[] {0, -1, 301, 302, MIN, MAX}) {
            CHECK.dueThrowWithoutChange("snow(" + millimetres + ")", ARGUMENT, x, () -> x.snow(millimetres));
        }
        CHECK.due("snow(1)", x.snow(1), 1);
        CHECK.due("snow(300)", x.snow(300), 301);
        x.go(0);
        CHECK.dueThrowWithoutChange("snow(0) on salt", ARGUMENT, x, () -> x.snow(0));
        CHECK.dueThrowWithoutChange("snow(301) on salt", ARGUMENT, x, () -> x.snow(301));
    }

    private static void snowWithoutRoads() {
        CHECK.sentence("Promise 5", "0 if there are no roads");
        PloughPlanner x = Towns.withNodes(8);
        CHECK.due("snow(1)", x.snow(1), 0);
        CHECK.due("snow(300)", x.snow(300), 0);
        CHECK.dueThrow("snow(0)", ARGUMENT, () -> x.snow(0));
        CHECK.dueThrow("snow(301)", ARGUMENT, () -> x.snow(301));
        x.addRoad(0, 7, 1, 0);
        CHECK.due("the road has none of it", x.depth(0, 0) + x.depth(0, 1), 0);
    }

    private static void snowTellsTheGreatest() {
        CHECK.sentence("Promise 5", "the greatest number of millimetres on a side then");
        PloughPlanner x = Towns.withNodes(2);
        for (int road = 0; road < 12; road++) {
            x.addRoad(0, 1, 1, road % 3);
        }
        x.snow(20);
        x.go(11);
        CHECK.due("on the very last side", x.snow(1), 31);
        PloughPlanner y = Towns.withNodes(2);
        y.addRoad(1, 0, 1, 0);
        y.addRoad(1, 0, 1, 0);
        y.snow(20);
        y.go(0);
        CHECK.due("on the very first side", y.snow(1), 31);
        CHECK.due("the other ones have less", y.depth(1, 0), 21);
    }

    private static void snowNeverMoreThan999() {
        CHECK.sentence("Promise 5", "and never more than 999");
        PloughPlanner x = Towns.withSnow(1, 998);
        CHECK.due("998", x.depth(0, 0), 998);
        CHECK.due("998 and 1", x.snow(1), 999);
        CHECK.due("999 and 1", x.snow(1), 999);
        CHECK.due("999 and 300", x.snow(300), 999);
        CHECK.due("depth(0, 0)", x.depth(0, 0), 999);
        CHECK.due("depth(0, 1)", x.depth(0, 1), 999);
        PloughPlanner y = Towns.withSnow(1, 998);
        CHECK.due("998 and 2", y.snow(2), 999);
        PloughPlanner z = Towns.withSnow(1, 699);
        CHECK.due("699 and 300", z.snow(300), 999);
        PloughPlanner w = Towns.withSnow(1, 700);
        CHECK.due("700 and 300", w.snow(300), 999);
    }

    private static void snowHalfOnSalt() {
        CHECK.sentence("Promise 5", "but half of it (cut towards 0) if it is salted");
        int[][] halves = {{1, 0}, {2, 1}, {3, 1}, {4, 2}, {299, 149}, {300, 150}};
        for (int[] half : halves) {
            PloughPlanner x = Towns.withSnow(1, 1);
            x.go(0);
            CHECK.due("snow(" + half[0] + ")", x.snow(half[0]), 1 + half[0]);
            CHECK.due("the salted side after snow(" + half[0] + ")", x.depth(0, 0), half[1]);
            CHECK.due("the other side after snow(" + half[0] + ")", x.depth(0, 1), 1 + half[0]);
        }
    }

    private static void snowHalfOnTheMostThatLiesOnSalt() {
        CHECK.sentence("Promise 5", "but half of it (cut towards 0) if it is salted");
        PloughPlanner x = Towns.withSnow(1, 999);
        x.go(0);
        x.strew(false);
        x.go(0);
        CHECK.due("side 0 is salted, below pushed snow", x.isSalted(0, 0), true);
        CHECK.due("side 0 has half of 999", x.depth(0, 0), 499);
        CHECK.due("side 0 has more than side 1", x.snow(300), 649);
        CHECK.due("300 on side 1, which is not salted", x.depth(0, 1), 300);
        CHECK.due("no longer half", x.snow(300), 949);
    }

    private static void snowTakesTheSaltAway() {
        CHECK.sentence("Promise 5", "no side is salted then");
        PloughPlanner x = Towns.withSnow(1, 10);
        x.go(0);
        x.go(0);
        CHECK.due("both sides are salted", x.isSalted(0, 0) && x.isSalted(0, 1), true);
        x.snow(1);
        CHECK.due("isSalted(0, 0)", x.isSalted(0, 0), false);
        CHECK.due("isSalted(0, 1)", x.isSalted(0, 1), false);
        CHECK.due("half of 1 is 0, so side 1 stays bare", x.depth(0, 1), 0);
    }

    // ---- promises 6 and 7

    private static void depthNoSuchSide() {
        CHECK.sentence("Promise 6", "IndexOutOfBoundsException if there is no such road, or side is not 0 or 1");
        PloughPlanner x = Towns.full();
        CHECK.due("depth(0, 0)", x.depth(0, 0), 0);
        CHECK.due("depth(11, 1)", x.depth(11, 1), 0);
        for (int road : new int[] {-1, 12, 13, MIN, MAX, 1 << 30, 1 << 31}) {
            CHECK.dueThrowWithoutChange("depth(" + road + ", 0)", INDEX, x, () -> x.depth(road, 0));
            CHECK.dueThrowWithoutChange("depth(" + road + ", 1)", INDEX, x, () -> x.depth(road, 1));
        }
        for (int side : new int[] {-1, 2, 3, MIN, MAX}) {
            CHECK.dueThrowWithoutChange("depth(0, " + side + ")", INDEX, x, () -> x.depth(0, side));
            CHECK.dueThrowWithoutChange("depth(11, " + side + ")", INDEX, x, () -> x.depth(11, side));
        }
        CHECK.dueThrowWithoutChange("depth(1, -2), which is side 0 of road 0", INDEX, x, () -> x.depth(1, -2));
        CHECK.dueThrowWithoutChange("depth(-1, 2), which is side 0 of road 0", INDEX, x, () -> x.depth(-1, 2));
    }

    private static void depthFromZeroTo999() {
        CHECK.sentence("Promise 6", "On each side lies snow, 0 to 999 millimetres (0 at first)");
        PloughPlanner x = Towns.withRoad(1);
        CHECK.due("at first, side 0", x.depth(0, 0), 0);
        CHECK.due("at first, side 1", x.depth(0, 1), 0);
        Towns.letItSnow(x, 999);
        CHECK.due("999, side 0", x.depth(0, 0), 999);
        CHECK.due("999, side 1", x.depth(0, 1), 999);
        x.go(0);
        CHECK.due("cleared", x.depth(0, 0), 0);
        CHECK.due("full, and more pushed onto it", x.depth(0, 1), 999);
    }

    private static void isSaltedNoSuchSide() {
        CHECK.sentence("Promise 7", "IndexOutOfBoundsException if there is no such road, or side is not 0 or 1");
        PloughPlanner x = Towns.full();
        CHECK.due("isSalted(0, 0)", x.isSalted(0, 0), false);
        CHECK.due("isSalted(11, 1)", x.isSalted(11, 1), false);
        for (int road : new int[] {-1, 12, 13, MIN, MAX, 1 << 30, 1 << 31}) {
            CHECK.dueThrowWithoutChange("isSalted(" + road + ", 0)", INDEX, x, () -> x.isSalted(road, 0));
            CHECK.dueThrowWithoutChange("isSalted(" + road + ", 1)", INDEX, x, () -> x.isSalted(road, 1));
        }
        for (int side : new int[] {-1, 2, 3, MIN, MAX}) {
            CHECK.dueThrowWithoutChange("isSalted(0, " + side + ")", INDEX, x, () -> x.isSalted(0, side));
            CHECK.dueThrowWithoutChange("isSalted(11, " + side + ")", INDEX, x, () -> x.isSalted(11, side));
        }
    }

    private static void isSaltedNotAtFirst() {
        CHECK.sentence("Promise 7", "it is salted or not (not, at first)");
        PloughPlanner x = Towns.withRoad(1);
        CHECK.due("side 0", x.isSalted(0, 0), false);
        CHECK.due("side 1", x.isSalted(0, 1), false);
        x.snow(1);
        CHECK.due("snow does not salt", x.isSalted(0, 0) || x.isSalted(0, 1), false);
    }

    // ---- promise 8

    private static void worstOutsideItsBounds() {
        CHECK.sentence("Promise 8", "IndexOutOfBoundsException if priority is not 0 to 2");
        PloughPlanner x = Towns.full();
        x.snow(7);
        for (int priority : new int[] {-1, -2, 3, 4, MIN, MAX}) {
            CHECK.dueThrowWithoutChange("worst(" + priority + ")", INDEX, x, () -> x.worst(priority));
        }
        CHECK.due("worst(0)", x.worst(0), 7);
        CHECK.due("worst(2)", x.worst(2), 7);
        PloughPlanner y = new PloughPlanner();
        CHECK.dueThrowWithoutChange("worst(-1) without roads", INDEX, y, () -> y.worst(-1));
        CHECK.dueThrowWithoutChange("worst(3) without roads", INDEX, y, () -> y.worst(3));
    }

    private static void worstWithoutSuchRoad() {
        CHECK.sentence("Promise 8", "-1 if there is no such road");
        PloughPlanner x = Towns.withNodes(2);
        CHECK.due("no road at all", x.worst(1), -1);
        x.addRoad(0, 1, 1, 0);
        x.addRoad(0, 1, 1, 2);
        CHECK.due("only other priorities", x.worst(1), -1);
        CHECK.due("a road without snow", x.worst(0), 0);
        x.snow(300);
        CHECK.due("still only other priorities", x.worst(1), -1);
    }

    private static void worstOnEitherSide() {
        CHECK.sentence("Promise 8", "the greatest number of millimetres on a side of a road with this priority");
        PloughPlanner x = Towns.withNodes(2);
        x.addRoad(0, 1, 1, 1);
        x.addRoad(0, 1, 1, 0);
        x.addRoad(1, 0, 1, 1);
        x.snow(20);
        x.go(0);
        CHECK.due("on side 1 of the first such road", x.worst(1), 30);
        CHECK.due("the roads of the other priority are left out", x.worst(0), 20);
        x.go(2);
        x.go(0);
        x.go(2);
        CHECK.due("on the sides of both", x.worst(1), 30);
        Towns.letItSnow(x, 999);
        CHECK.due("at most 999", x.worst(1), 999);
        PloughPlanner y = Towns.withNodes(2);
        y.addRoad(1, 0, 1, 1);
        y.snow(20);
        y.go(0);
        CHECK.due("on side 0 alone", y.worst(1), 30);
    }

    // ---- promise 9

    private static void reachNoSuchNode() {
        CHECK.sentence("Promise 9", "IndexOutOfBoundsException if there is no such node");
        PloughPlanner x = Towns.withNodes(8);
        for (int node : new int[] {-1, 8, 9, 32, MIN, MAX}) {
            CHECK.dueThrowWithoutChange("reach(" + node + ")", INDEX, x, () -> x.reach(node));
        }
        CHECK.due("reach(0)", x.reach(0), 1);
        CHECK.due("reach(7)", x.reach(7), 128);
        PloughPlanner y = new PloughPlanner();
        CHECK.dueThrowWithoutChange("reach(1) with one node", INDEX, y, () -> y.reach(1));
    }

    private static void reachItselfAlone() {
        CHECK.sentence("Promise 9", "the node itself is one of them");
        PloughPlanner x = Towns.withNodes(8);
        for (int node = 0; node < 8; node++) {
            CHECK.due("reach(" + node + ") without roads", x.reach(node), 1 << node);
        }
        PloughPlanner y = Towns.withSnow(1, 999);
        CHECK.due("reach(0), all sides blocked", y.reach(0), 1);
        CHECK.due("reach(1), all sides blocked", y.reach(1), 2);
    }

    private static void reachThreeHundred() {
        CHECK.sentence("Promise 9", "on none of which lie 300 millimetres or more");
        CHECK.due("299 millimetres, from 0", Towns.withSnow(1, 299).reach(0), 3);
        CHECK.due("299 millimetres, from 1", Towns.withSnow(1, 299).reach(1), 3);
        CHECK.due("300 millimetres, from 0", Towns.withSnow(1, 300).reach(0), 1);
        CHECK.due("300 millimetres, from 1", Towns.withSnow(1, 300).reach(1), 2);
        CHECK.due("301 millimetres, from 0", Towns.withSnow(1, 301).reach(0), 1);
        PloughPlanner x = Towns.withSnow(1, 200);
        x.go(0);
        CHECK.due("side 0 is bare", x.reach(0), 3);
        CHECK.due("pushed up to 300 on side 1", x.reach(1), 2);
        PloughPlanner y = Towns.withSnow(1, 199);
        y.go(0);
        CHECK.due("pushed up to 298 on side 1", y.reach(1), 3);
    }

    private static void reachOneAfterTheOther() {
        CHECK.sentence("Promise 9", "to which sides lead from it, one after the other");
        PloughPlanner x = Towns.withNodes(8);
        for (int node = 7; node > 0; node--) {
            x.addRoad(node, node - 1, 1, 0);
        }
        CHECK.due("seven sides one after the other, from 0", x.reach(0), 255);
        CHECK.due("seven sides one after the other, from 7", x.reach(7), 255);
        PloughPlanner y = Towns.withNodes(8);
        for (int node = 0; node < 7; node++) {
            y.addRoad(node, node + 1, 1, 0);
        }
        CHECK.due("roads the other way round, from 0", y.reach(0), 255);
        CHECK.due("roads the other way round, from 7", y.reach(7), 255);
        y.snow(200);
        y.strew(false);
        for (int road = 0; road < 7; road++) {
            y.go(road);
        }
        CHECK.due("only upwards, from 0", y.reach(0), 255);
        CHECK.due("only upwards, from 3", y.reach(3), 255 - 7);
        CHECK.due("only upwards, from 7", y.reach(7), 128);
    }

    // ---- promise 10

    private static void bareWithoutSides() {
        CHECK.sentence("Promise 10", "1 if there are none");
        PloughPlanner x = new PloughPlanner();
        CHECK.dueDouble("a new object", x.bare(), 1);
        x.addNode(true, true);
        x.snow(300);
        CHECK.dueDouble("it snowed on no road", x.bare(), 1);
    }

    private static void bareAllAndNone() {
        CHECK.sentence("Promise 10", "the number of sides without snow, divided by the number of all sides");
        PloughPlanner x = Towns.withRoad(1);
        CHECK.dueDouble("all", x.bare(), 1);
        x.snow(1);
        CHECK.dueDouble("none: 1 millimetre is snow", x.bare(), 0);
        x.go(0);
        CHECK.dueDouble("half of 1 millimetre is none", x.bare(), 0.5);
        x.go(0);
        CHECK.dueDouble("all again", x.bare(), 1);
    }

    private static void bareOneOfTwentyFour() {
        CHECK.sentence("Promise 10", "the number of sides without snow, divided by the number of all sides");
        PloughPlanner x = Towns.full();
        CHECK.dueDouble("24 of 24", x.bare(), 1);
        x.snow(2);
        CHECK.dueDouble("0 of 24", x.bare(), 0);
        x.go(0);
        CHECK.dueDouble("1 of 24", x.bare(), 1.0 / 24.0);
        x.go(1);
        CHECK.dueDouble("2 of 24", x.bare(), 2.0 / 24.0);
    }
}
