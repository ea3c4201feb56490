/** Promises 1 to 10: the nodes, the roads and the snow on them. */
public final class TownTest {
    private static final Class<IndexOutOfBoundsException> INDEX = IndexOutOfBoundsException.class;
    private static final Class<IllegalArgumentException> ARGUMENT = IllegalArgumentException.class;
    private static final Class<IllegalStateException> STATE = IllegalStateException.class;
    private static final Check CHECK = new Check();

    public static void main(String[] args) {
        promise1NewObject();
        promise2AddNode();
        promise3SetNode();
        promise4AddRoad();
        promise4OrderOfExceptions();
        promise5Snow();
        promise5SnowOnSalt();
        promise6Depth();
        promise7IsSalted();
        promise8Worst();
        promise9Reach();
        promise10Bare();
        CHECK.end();
    }

    private static void promise1NewObject() {
        PloughPlanner x = new PloughPlanner();
        CHECK.dueThrow("depth(0, 0)", INDEX, () -> x.depth(0, 0));
        CHECK.dueThrow("way(1)", INDEX, () -> x.way(1));
        CHECK.due("way(0)", x.way(0), 0);
        CHECK.due("plough(0)", x.plough(0), 0);
        CHECK.due("plough(1)", x.plough(1), -1);
        CHECK.due("plough(2)", x.plough(2), 120);
        CHECK.due("plough(3)", x.plough(3), 1);
        for (int what = 0; what < 4; what++) {
            CHECK.due("total(" + what + ")", x.total(what), 0);
        }
        CHECK.due("setNode(0, false, true)", x.setNode(0, false, true), true);
        CHECK.due("setNode(0, true, true)", x.setNode(0, true, true), true);
        CHECK.due("addNode(false, false)", x.addNode(false, false), 1);
    }

    private static void promise2AddNode() {
        PloughPlanner x = new PloughPlanner();
        for (int node = 1; node < 8; node++) {
            CHECK.due("addNode", x.addNode((node & 1) != 0, (node & 2) != 0), node);
        }
        CHECK.dueThrowWithoutChange("the ninth addNode", STATE, x, () -> x.addNode(true, true));
        CHECK.dueThrow("setNode(8, true, true)", INDEX, () -> x.setNode(8, true, true));
        for (int node = 1; node < 8; node++) {
            CHECK.due("turning of " + node, x.setNode(node, false, false), (node & 1) != 0);
            CHECK.due("store of " + node, x.setNode(node, true, false), (node & 2) != 0);
        }
    }

    private static void promise3SetNode() {
        PloughPlanner x = Towns.withNodes(2);
        CHECK.due("store on", x.setNode(1, true, true), false);
        CHECK.due("turning stays off", x.setNode(1, false, false), false);
        CHECK.due("store stays on", x.setNode(1, true, true), true);
        CHECK.due("store off", x.setNode(1, true, false), true);
        CHECK.due("store is off", x.setNode(1, true, false), false);
        CHECK.due("turning on", x.setNode(1, false, true), false);
        CHECK.due("turning is on", x.setNode(1, false, true), true);
        CHECK.due("node 0 still turning", x.setNode(0, false, true), true);
        CHECK.dueThrowWithoutChange("setNode(2, ..)", INDEX, x, () -> x.setNode(2, true, true));
        CHECK.dueThrowWithoutChange("setNode(-1, ..)", INDEX, x, () -> x.setNode(-1, false, true));
        CHECK.dueThrow("setNode(MIN, ..)", INDEX, () -> x.setNode(Integer.MIN_VALUE, false, true));
        CHECK.dueThrow("setNode(MAX, ..)", INDEX, () -> x.setNode(Integer.MAX_VALUE, false, true));
    }

    private static void promise4AddRoad() {
        PloughPlanner x = Towns.withNodes(3);
        for (int road = 0; road < 12; road++) {
            CHECK.due("addRoad", x.addRoad(road % 2, 2, road == 0 ? 30 : 1, road % 3), road);
        }
        CHECK.dueThrowWithoutChange("the 13th addRoad", STATE, x, () -> x.addRoad(0, 1, 1, 0));
        CHECK.dueThrow("depth(12, 0)", INDEX, () -> x.depth(12, 0));
        CHECK.due("go(0)", x.go(0), 30);
        CHECK.due("node", x.plough(0), 2);
        CHECK.due("go(1)", x.go(1), 1);
        CHECK.due("node", x.plough(0), 1);
    }

    private static void promise4OrderOfExceptions() {
        PloughPlanner x = Towns.withNodes(2);
        CHECK.dueThrowWithoutChange("addRoad(0, 2, 0, 3)", INDEX, x, () -> x.addRoad(0, 2, 0, 3));
        CHECK.dueThrowWithoutChange("addRoad(2, 0, 1, 0)", INDEX, x, () -> x.addRoad(2, 0, 1, 0));
        CHECK.dueThrow("addRoad(-1, -1, 0, 3)", INDEX, () -> x.addRoad(-1, -1, 0, 3));
        CHECK.dueThrow("addRoad(1, -1, 1, 1)", INDEX, () -> x.addRoad(1, -1, 1, 1));
        CHECK.dueThrowWithoutChange("addRoad(1, 1, 1, 1)", ARGUMENT, x, () -> x.addRoad(1, 1, 1, 1));
        CHECK.dueThrow("addRoad(0, 1, 0, 1)", ARGUMENT, () -> x.addRoad(0, 1, 0, 1));
        CHECK.dueThrow("addRoad(0, 1, 31, 1)", ARGUMENT, () -> x.addRoad(0, 1, 31, 1));
        CHECK.dueThrow("addRoad(0, 1, 1, -1)", ARGUMENT, () -> x.addRoad(0, 1, 1, -1));
        CHECK.dueThrow("addRoad(0, 1, 1, 3)", ARGUMENT, () -> x.addRoad(0, 1, 1, 3));
        for (int road = 0; road < 12; road++) {
            x.addRoad(0, 1, 1, 0);
        }
        CHECK.dueThrow("full, no node", INDEX, () -> x.addRoad(0, 2, 1, 0));
        CHECK.dueThrow("full, same ends", ARGUMENT, () -> x.addRoad(0, 0, 1, 0));
        CHECK.dueThrow("full, no minutes", ARGUMENT, () -> x.addRoad(0, 1, 0, 0));
        CHECK.dueThrow("full, no priority", ARGUMENT, () -> x.addRoad(0, 1, 1, 3));
    }

    private static void promise5Snow() {
        PloughPlanner x = Towns.withNodes(2);
        CHECK.due("snow(300) without roads", x.snow(300), 0);
        x.addRoad(0, 1, 1, 2);
        CHECK.due("no snow on a new road", x.depth(0, 0), 0);
        CHECK.due("snow(1)", x.snow(1), 1);
        CHECK.due("snow(300)", x.snow(300), 301);
        CHECK.due("depth(0, 0)", x.depth(0, 0), 301);
        CHECK.due("depth(0, 1)", x.depth(0, 1), 301);
        x.snow(300);
        x.snow(300);
        CHECK.due("snow(97)", x.snow(97), 998);
        CHECK.due("snow(1)", x.snow(1), 999);
        CHECK.due("snow(1) on 999", x.snow(1), 999);
        CHECK.due("depth(0, 1)", x.depth(0, 1), 999);
        CHECK.dueThrowWithoutChange("snow(0)", ARGUMENT, x, () -> x.snow(0));
        CHECK.dueThrow("snow(-1)", ARGUMENT, () -> x.snow(-1));
        CHECK.dueThrow("snow(301)", ARGUMENT, () -> x.snow(301));
        PloughPlanner empty = new PloughPlanner();
        CHECK.dueThrow("snow(0) without roads", ARGUMENT, () -> empty.snow(0));
    }

    private static void promise5SnowOnSalt() {
        PloughPlanner x = Towns.withNodes(2);
        x.addRoad(0, 1, 1, 2);
        x.snow(11);
        x.go(0);
        CHECK.due("salted", x.isSalted(0, 0), true);
        CHECK.due("half of 11 on the other side", x.depth(0, 1), 16);
        CHECK.due("snow(7)", x.snow(7), 23);
        CHECK.due("half of 7", x.depth(0, 0), 3);
        CHECK.due("no longer salted", x.isSalted(0, 0), false);
        x.snow(7);
        CHECK.due("all of 7", x.depth(0, 0), 10);
    }

    private static void promise6Depth() {
        PloughPlanner x = Towns.withNodes(2);
        x.addRoad(1, 0, 3, 0);
        x.snow(40);
        x.go(0);
        CHECK.due("from b to a is side 1", x.depth(0, 1), 0);
        CHECK.due("the other side", x.depth(0, 0), 60);
        CHECK.dueThrow("depth(1, 0)", INDEX, () -> x.depth(1, 0));
        CHECK.dueThrow("depth(-1, 0)", INDEX, () -> x.depth(-1, 0));
        CHECK.dueThrow("depth(-1, 2)", INDEX, () -> x.depth(-1, 2));
        CHECK.dueThrow("depth(0, 2)", INDEX, () -> x.depth(0, 2));
        CHECK.dueThrow("depth(0, -1)", INDEX, () -> x.depth(0, -1));
        CHECK.dueThrow("depth(MIN, 0)", INDEX, () -> x.depth(Integer.MIN_VALUE, 0));
        CHECK.dueThrow("depth(MAX, 1)", INDEX, () -> x.depth(Integer.MAX_VALUE, 1));
    }

    private static void promise7IsSalted() {
        PloughPlanner x = Towns.withNodes(2);
        x.addRoad(1, 0, 3, 0);
        CHECK.due("not at first", x.isSalted(0, 1), false);
        x.snow(1);
        x.go(0);
        CHECK.due("the side gone", x.isSalted(0, 1), true);
        CHECK.due("the other side", x.isSalted(0, 0), false);
        CHECK.dueThrow("isSalted(1, 0)", INDEX, () -> x.isSalted(1, 0));
        CHECK.dueThrow("isSalted(-1, 1)", INDEX, () -> x.isSalted(-1, 1));
        CHECK.dueThrow("isSalted(0, 2)", INDEX, () -> x.isSalted(0, 2));
        CHECK.dueThrow("isSalted(0, -1)", INDEX, () -> x.isSalted(0, -1));
    }

    private static void promise8Worst() {
        PloughPlanner x = Towns.withNodes(2);
        x.addRoad(0, 1, 1, 0);
        x.snow(20);
        x.addRoad(0, 1, 1, 2);
        CHECK.due("worst(0)", x.worst(0), 20);
        CHECK.due("worst(1)", x.worst(1), -1);
        CHECK.due("worst(2)", x.worst(2), 0);
        x.go(0);
        CHECK.due("worst(0) on side 1", x.worst(0), 30);
        x.go(1);
        x.snow(10);
        CHECK.due("worst(2)", x.worst(2), 10);
        CHECK.dueThrow("worst(-1)", INDEX, () -> x.worst(-1));
        CHECK.dueThrow("worst(3)", INDEX, () -> x.worst(3));
    }

    private static void promise9Reach() {
        PloughPlanner x = Towns.withNodes(4);
        CHECK.due("without roads", x.reach(3), 8);
        x.addRoad(3, 2, 1, 0);
        x.addRoad(2, 1, 1, 0);
        x.addRoad(0, 1, 1, 0);
        CHECK.due("against the numbers, and no turning place on it", x.reach(3), 15);
        x.snow(299);
        CHECK.due("299 millimetres", x.reach(0), 15);
        x.go(2);
        CHECK.due("448 millimetres from 1 to 0", x.reach(1), 14);
        CHECK.due("from 3 to 1 alone", x.reach(3), 14);
        CHECK.due("the side gone is bare", x.reach(0), 15);
        x.snow(1);
        CHECK.due("300 millimetres", x.reach(3), 8);
        CHECK.due("node 0 still has its bare side", x.reach(0), 3);
        CHECK.dueThrow("reach(4)", INDEX, () -> x.reach(4));
        CHECK.dueThrow("reach(-1)", INDEX, () -> x.reach(-1));
        reachAlongAllNodes();
    }

    private static void reachAlongAllNodes() {
        PloughPlanner x = Towns.withNodes(8);
        for (int node = 0; node < 7; node++) {
            x.addRoad(node, node + 1, 1, 0);
        }
        CHECK.due("upwards", x.reach(0), 255);
        CHECK.due("downwards", x.reach(7), 255);
    }

    private static void promise10Bare() {
        PloughPlanner x = Towns.withNodes(2);
        CHECK.dueDouble("without roads", x.bare(), 1);
        x.addRoad(0, 1, 1, 0);
        CHECK.dueDouble("without snow", x.bare(), 1);
        x.snow(1);
        CHECK.dueDouble("with snow", x.bare(), 0);
        x.go(0);
        CHECK.dueDouble("one side of two", x.bare(), 0.5);
        x.addRoad(0, 1, 1, 0);
        x.addRoad(0, 1, 1, 0);
        CHECK.dueDouble("five sides of six", x.bare(), 5.0 / 6.0);
    }
}
