/** Promises 15 to 20: the ways of the plough, the next side, and clearing. */
public final class WaysTest {
    private static final Class<IndexOutOfBoundsException> INDEX = IndexOutOfBoundsException.class;
    private static final Class<IllegalArgumentException> ARGUMENT = IllegalArgumentException.class;
    private static final Check CHECK = new Check();

    public static void main(String[] args) {
        promise15Way();
        promise15WayWithTurns();
        promise16First();
        promise16FirstAmongEqualWays();
        promise17And18Sides();
        promise19Next();
        promise19NextByWayAndNumber();
        promise20ClearToTheLimit();
        promise20ClearGoesTheShortestWay();
        promise20ClearFillsUp();
        promise20ClearWithoutAStore();
        promise20ClearLooksAnewAfterFilling();
        CHECK.end();
    }

    private static void promise15Way() {
        PloughPlanner x = Towns.withNodes(4);
        x.addRoad(0, 1, 10, 0);
        x.addRoad(0, 2, 3, 0);
        x.addRoad(2, 1, 4, 0);
        CHECK.due("way(0)", x.way(0), 0);
        CHECK.due("way(1)", x.way(1), 7);
        CHECK.due("way(2)", x.way(2), 3);
        CHECK.due("way(3)", x.way(3), -1);
        x.snow(300);
        CHECK.due("the snow is not counted", x.way(1), 7);
        CHECK.dueThrow("way(4)", INDEX, () -> x.way(4));
        CHECK.dueThrow("way(-1)", INDEX, () -> x.way(-1));
        CHECK.dueThrow("first(4)", INDEX, () -> x.first(4));
        CHECK.dueThrow("first(-1)", INDEX, () -> x.first(-1));
    }

    private static void promise15WayWithTurns() {
        PloughPlanner x = Towns.withNodes(3);
        x.addRoad(0, 1, 10, 0);
        x.addRoad(1, 2, 5, 0);
        x.go(0);
        CHECK.due("no way back", x.way(0), -1);
        CHECK.due("nor its first road", x.first(0), -1);
        CHECK.due("its own node", x.way(1), 0);
        CHECK.due("way(2)", x.way(2), 5);
        x.setNode(2, false, true);
        CHECK.due("by the turning place 2", x.way(0), 5 + 5 + 2 + 10);
        CHECK.due("first(0)", x.first(0), 1);
        x.setNode(1, false, true);
        CHECK.due("by a turn at once", x.way(0), 12);
        CHECK.due("first(0)", x.first(0), 0);
        x.setNode(1, false, false);
        x.addRoad(1, 0, 22, 0);
        CHECK.due("22 with one road, or 22 with three", x.way(0), 22);
        CHECK.due("the fewest roads", x.first(0), 2);
    }

    private static void promise16First() {
        PloughPlanner x = Towns.withNodes(4);
        x.addRoad(0, 1, 2, 0);
        x.addRoad(1, 2, 2, 0);
        x.addRoad(0, 2, 4, 0);
        x.addRoad(2, 3, 1, 0);
        CHECK.due("its own node", x.first(0), -1);
        CHECK.due("fewest roads of equal minutes", x.first(2), 2);
        CHECK.due("and so behind it", x.first(3), 2);
        x.addRoad(0, 3, 4, 0);
        CHECK.due("least minutes", x.first(3), 4);
        CHECK.due("way(3)", x.way(3), 4);
    }

    private static void promise16FirstAmongEqualWays() {
        PloughPlanner x = Towns.withNodes(4);
        x.addRoad(2, 3, 1, 0);
        x.addRoad(1, 3, 1, 0);
        x.addRoad(0, 1, 1, 0);
        x.addRoad(0, 2, 1, 0);
        CHECK.due("the smallest first road, not the smallest last one", x.first(3), 2);
        PloughPlanner y = Towns.withNodes(3);
        y.addRoad(0, 1, 5, 0);
        y.addRoad(0, 1, 5, 0);
        y.addRoad(1, 2, 5, 0);
        y.addRoad(1, 2, 5, 0);
        CHECK.due("of parallel roads the first", y.first(2), 0);
    }

    private static void promise17And18Sides() {
        PloughPlanner x = Towns.withNodes(3);
        x.addRoad(0, 1, 5, 0);
        x.addRoad(1, 2, 6, 0);
        CHECK.due("wayToSide(0, 0)", x.wayToSide(0, 0), 5);
        CHECK.due("firstToSide(0, 0)", x.firstToSide(0, 0), 0);
        CHECK.due("wayToSide(1, 0)", x.wayToSide(1, 0), 11);
        CHECK.due("firstToSide(1, 0)", x.firstToSide(1, 0), 0);
        CHECK.due("wayToSide(1, 1)", x.wayToSide(1, 1), -1);
        CHECK.due("firstToSide(1, 1)", x.firstToSide(1, 1), -1);
        x.addRoad(2, 0, 7, 0);
        CHECK.due("wayToSide(1, 1) by the other way round", x.wayToSide(1, 1), 13);
        CHECK.due("firstToSide(1, 1)", x.firstToSide(1, 1), 2);
        x.go(0);
        CHECK.due("a side gone before needs a way of its own", x.wayToSide(0, 0), 6 + 7 + 5);
        CHECK.due("firstToSide(0, 0)", x.firstToSide(0, 0), 1);
        CHECK.due("round and a turn at 0", x.wayToSide(2, 1), 6 + 7 + 2 + 7);
        CHECK.due("round, and round again", x.wayToSide(0, 1), 6 + 7 + 2 + 7 + 6 + 5);
        x.setNode(0, false, false);
        CHECK.due("without a turning place", x.wayToSide(0, 1), -1);
        wrongSides(x);
    }

    private static void wrongSides(PloughPlanner x) {
        int[][] wrong = {{3, 0}, {-1, 0}, {0, 2}, {0, -1}, {-1, 2}, {Integer.MAX_VALUE, 0}, {Integer.MIN_VALUE, 1}};
        for (int[] pair : wrong) {
            CHECK.dueThrow("wayToSide", INDEX, () -> x.wayToSide(pair[0], pair[1]));
            CHECK.dueThrow("firstToSide", INDEX, () -> x.firstToSide(pair[0], pair[1]));
        }
    }

    private static void promise19Next() {
        PloughPlanner x = Towns.withNodes(4);
        CHECK.due("without roads", x.next(), -1);
        x.addRoad(2, 3, 1, 0);
        x.addRoad(0, 1, 1, 2);
        x.addRoad(1, 0, 30, 1);
        x.snow(49);
        CHECK.due("49 millimetres", x.next(), -1);
        x.snow(1);
        CHECK.due("50 millimetres, least priority with a way", x.next(), 5);
        x.strew(false);
        x.go(2);
        CHECK.due("then by road 1 to node 0, and there a turn", x.next(), 4);
    }

    private static void promise19NextByWayAndNumber() {
        PloughPlanner x = Towns.withNodes(3);
        x.addRoad(1, 2, 1, 1);
        x.addRoad(0, 1, 9, 1);
        x.addRoad(0, 1, 8, 1);
        x.addRoad(1, 0, 8, 1);
        x.snow(50);
        CHECK.due("least minutes, then least number", x.next(), 4);
        PloughPlanner y = Towns.withNodes(2);
        y.addRoad(1, 0, 8, 1);
        y.addRoad(0, 1, 8, 1);
        y.snow(50);
        CHECK.due("side 1 of road 0 before side 0 of road 1", y.next(), 1);
    }

    private static void promise20ClearToTheLimit() {
        PloughPlanner x = Towns.withNodes(2);
        x.setNode(1, false, true);
        x.addRoad(0, 1, 5, 0);
        CHECK.due("nothing to clear", x.clear(300), 0);
        x.snow(300);
        CHECK.due("clear(0)", x.clear(0), 0);
        CHECK.due("clear(1)", x.clear(1), 10);
        CHECK.due("clear(12): 12 minutes are not less", x.clear(12), 12);
        CHECK.due("clear(13): one more", x.clear(13), 24);
        CHECK.due("to the end", x.clear(300), 12);
        CHECK.due("side 0", x.depth(0, 0), 0);
        CHECK.due("side 1", x.depth(0, 1), 28);
        CHECK.due("clear(300) again", x.clear(300), 0);
        CHECK.due("minutes", x.total(0), 10 + 12 + 24 + 12);
        CHECK.dueThrowWithoutChange("clear(-1)", ARGUMENT, x, () -> x.clear(-1));
        x.snow(300);
        CHECK.dueThrowWithoutChange("clear(301)", ARGUMENT, x, () -> x.clear(301));
    }

    private static void promise20ClearGoesTheShortestWay() {
        PloughPlanner x = Towns.withNodes(5);
        x.addRoad(3, 4, 1, 0);
        x.addRoad(2, 3, 1, 2);
        x.addRoad(1, 3, 1, 2);
        x.addRoad(0, 2, 1, 2);
        x.addRoad(0, 1, 1, 2);
        x.snow(60);
        CHECK.due("three roads, all deep", x.clear(1), 6);
        CHECK.due("node", x.plough(0), 4);
        CHECK.due("by road 3", x.depth(3, 0), 0);
        CHECK.due("by road 1", x.depth(1, 0), 0);
        CHECK.due("not by road 2", x.depth(2, 0), 60);
        CHECK.due("not by road 4", x.depth(4, 0), 60);
        CHECK.due("pushed", x.depth(1, 1), 90);
        CHECK.due("salted", x.isSalted(1, 0), true);
        CHECK.due("roads", x.total(3), 3);
    }

    private static void promise20ClearFillsUp() {
        PloughPlanner x = Towns.withNodes(3);
        x.setNode(1, false, true);
        x.addRoad(0, 1, 30, 0);
        x.addRoad(1, 2, 2, 2);
        x.setNode(0, true, false);
        x.snow(300);
        for (int i = 0; i < 4; i++) {
            x.go(0);
        }
        CHECK.due("salt", x.plough(2), 0);
        x.setNode(2, true, true);
        x.setNode(2, false, true);
        x.setNode(0, true, true);
        CHECK.due("next", x.next(), 0);
        CHECK.due("4 at the store where it stands, then 60 and a turn", x.clear(1), 4 + 62);
        CHECK.due("salt", x.plough(2), 90);
        x.strew(false);
        x.go(0);
        x.go(0);
        CHECK.due("node", x.plough(0), 1);
        x.strew(true);
        x.setNode(0, false, false);
        x.snow(300);
        CHECK.due("enough salt: no filling", x.clear(1), 62);
        CHECK.due("salt", x.plough(2), 60);
    }

    private static void promise20ClearWithoutAStore() {
        PloughPlanner x = Towns.withNodes(4);
        x.setNode(0, true, false);
        x.setNode(3, true, true);
        x.setNode(1, false, true);
        x.addRoad(0, 1, 30, 0);
        x.snow(300);
        for (int i = 0; i < 4; i++) {
            x.go(0);
        }
        CHECK.due("no way to the store", x.clear(1), 62);
        CHECK.due("not salted anew", x.plough(2), 0);
        x.strew(false);
        x.addRoad(1, 3, 1, 2);
        x.snow(300);
        CHECK.due("not strewing: no filling", x.clear(1), 62);
        CHECK.due("salt", x.plough(2), 0);
        CHECK.due("node", x.plough(0), 0);
    }

    private static void promise20ClearLooksAnewAfterFilling() {
        PloughPlanner x = Towns.withNodes(4);
        x.setNode(0, true, false);
        x.setNode(1, false, true);
        x.setNode(2, true, true);
        x.setNode(3, true, true);
        x.setNode(2, false, true);
        x.addRoad(0, 1, 30, 1);
        x.addRoad(0, 3, 5, 2);
        x.addRoad(0, 2, 5, 2);
        x.snow(300);
        for (int i = 0; i < 4; i++) {
            x.go(0);
        }
        x.snow(100);
        CHECK.due("next", x.next(), 0);
        // Of the stores 2 and 3, both 5 minutes away, it is 2; from there a turn, and then the side.
        CHECK.due("clear(1)", x.clear(1), 10 + 4 + 12 + 60);
        CHECK.due("road 2 gone both ways", x.depth(2, 0), 300);
        CHECK.due("road 1 not gone", x.depth(1, 0), 400);
        CHECK.due("roads", x.total(3), 7);
        fillingThatClearsTheLastSide();
    }

    private static void fillingThatClearsTheLastSide() {
        PloughPlanner x = Towns.withNodes(2);
        x.setNode(1, false, true);
        x.addRoad(0, 1, 30, 0);
        x.snow(300);
        for (int i = 0; i < 4; i++) {
            x.go(0);
        }
        x.strew(false);
        for (int i = 0; i < 8; i++) {
            x.go(0);
        }
        x.snow(1);
        CHECK.dueDouble("bare again, and no longer salted", x.bare(), 1);
        x.snow(40);
        x.go(0);
        CHECK.due("the only deep side, which leads to the store", x.next(), 1);
        x.strew(true);
        CHECK.due("goes there, fills up, and has no next side", x.clear(300), 62 + 4);
        CHECK.due("salt", x.plough(2), 120);
        CHECK.due("node", x.plough(0), 0);
        CHECK.due("next", x.next(), -1);
    }
}
