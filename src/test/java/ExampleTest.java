/** The example of README.md, call by call: where one of the two changes, the other must follow. */
public final class ExampleTest {
    private static final Check CHECK = new Check();

    public static void main(String[] args) {
        PloughPlanner planner = new PloughPlanner();
        int village = planner.addNode(true, false);
        int farm = planner.addNode(false, false);
        CHECK.due("village", village, 1);
        CHECK.due("farm", farm, 2);
        int street = planner.addRoad(0, village, 5, 0);
        int lane = planner.addRoad(village, farm, 8, 2);
        CHECK.due("street", street, 0);
        CHECK.due("lane", lane, 1);
        CHECK.due("snow(60)", planner.snow(60), 60);
        CHECK.due("next()", planner.next(), 0);
        CHECK.due("way(farm)", planner.way(farm), 13);
        CHECK.due("first(farm)", planner.first(farm), street);
        CHECK.due("go(street)", planner.go(street), 10);
        CHECK.due("depth(street, 0)", planner.depth(street, 0), 0);
        CHECK.due("depth(street, 1)", planner.depth(street, 1), 90);
        CHECK.due("isSalted(street, 0)", planner.isSalted(street, 0), true);
        CHECK.due("plough(2)", planner.plough(2), 115);
        CHECK.due("clear(20)", planner.clear(20), 35);
        CHECK.due("plough(0)", planner.plough(0), farm);
        CHECK.due("way(0)", planner.way(0), -1);
        CHECK.dueThrowWithoutChange("go(lane)", IllegalStateException.class, planner, () -> planner.go(lane));
        CHECK.due("total(0)", planner.total(0), 45);
        CHECK.end();
    }
}
