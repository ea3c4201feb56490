/** Promises 11 to 14, 21 and 22: what the plough does, and what is told of it. */
public final class PloughTest {
    private static final Class<IndexOutOfBoundsException> INDEX = IndexOutOfBoundsException.class;
    private static final Class<IllegalStateException> STATE = IllegalStateException.class;
    private static final Check CHECK = new Check();

    public static void main(String[] args) {
        promise11Strew();
        promise12GoAndMinutes();
        promise12GoOnlyWhereItCan();
        promise12GoAndSalt();
        promise12GoAndSnow();
        promise13Fill();
        promise14Plough();
        promise21Total();
        promise22Digest();
        CHECK.end();
    }

    private static void promise11Strew() {
        PloughPlanner x = Towns.withRoad(1);
        x.snow(10);
        CHECK.due("strews at first", x.strew(true), true);
        CHECK.due("still", x.strew(false), true);
        CHECK.due("no longer", x.strew(false), false);
        x.go(0);
        CHECK.due("not salted", x.isSalted(0, 0), false);
        CHECK.due("salt", x.plough(2), 120);
        CHECK.due("cleared all the same", x.depth(0, 0), 0);
        CHECK.due("on again", x.strew(true), false);
        x.go(0);
        CHECK.due("salted", x.isSalted(0, 1), true);
        CHECK.due("salt", x.plough(2), 119);
    }

    private static void promise12GoAndMinutes() {
        PloughPlanner x = Towns.withRoad(7);
        CHECK.due("without snow", x.go(0), 7);
        CHECK.due("with a turn", x.go(0), 9);
        x.snow(49);
        CHECK.due("49 millimetres", x.go(0), 9);
        PloughPlanner y = Towns.withRoad(7);
        y.snow(50);
        CHECK.due("50 millimetres", y.go(0), 14);
        CHECK.due("75 millimetres and a turn", y.go(0), 16);
    }

    private static void promise12GoOnlyWhereItCan() {
        PloughPlanner x = Towns.withRoad(5);
        x.addNode(false, false);
        x.addRoad(1, 2, 6, 0);
        x.addRoad(2, 1, 8, 0);
        CHECK.dueThrowWithoutChange("go(3)", INDEX, x, () -> x.go(3));
        CHECK.dueThrowWithoutChange("go(-1)", INDEX, x, () -> x.go(-1));
        CHECK.dueThrow("go(MIN)", INDEX, () -> x.go(Integer.MIN_VALUE));
        CHECK.dueThrow("go(MAX)", INDEX, () -> x.go(Integer.MAX_VALUE));
        CHECK.dueThrowWithoutChange("go(1) from node 0", STATE, x, () -> x.go(1));
        CHECK.due("go(0)", x.go(0), 5);
        CHECK.due("go(1)", x.go(1), 6);
        CHECK.dueThrowWithoutChange("go(1) back", STATE, x, () -> x.go(1));
        CHECK.dueThrowWithoutChange("go(0) from node 2", STATE, x, () -> x.go(0));
        CHECK.due("back by another road is no turn", x.go(2), 8);
        CHECK.due("turns", x.total(2), 0);
        x.setNode(1, false, false);
        CHECK.dueThrow("node 1 is no longer a turning place", STATE, () -> x.go(2));
        x.setNode(1, false, true);
        CHECK.due("it is one again", x.go(2), 10);
        CHECK.due("turns", x.total(2), 1);
        CHECK.due("go(1)", x.go(1), 6);
        CHECK.due("go(0)", x.go(0), 5);
    }

    private static void promise12GoAndSalt() {
        PloughPlanner x = Towns.withRoad(30);
        x.go(0);
        CHECK.due("no snow, no salt", x.plough(2), 120);
        CHECK.due("not salted", x.isSalted(0, 0), false);
        x.snow(300);
        for (int left = 90; left >= 0; left -= 30) {
            x.go(0);
            CHECK.due("salt", x.plough(2), left);
        }
        CHECK.due("strewn", x.total(1), 120);
        x.snow(2);
        x.go(0);
        CHECK.due("no salt left", x.isSalted(0, 1), false);
        CHECK.due("cleared all the same", x.depth(0, 1), 0);
        PloughPlanner y = Towns.withRoad(29);
        y.addRoad(0, 1, 5, 0);
        y.addRoad(0, 1, 4, 0);
        y.snow(8);
        for (int i = 0; i < 4; i++) {
            y.go(0);
        }
        CHECK.due("side 0, three times snow, once none", y.plough(2), 120 - 29 * 3 - 29);
        y.go(1);
        CHECK.due("4 are less than 5", y.isSalted(1, 0), false);
        y.go(2);
        CHECK.due("4 are as much as 4", y.isSalted(2, 1), true);
        CHECK.due("salt", y.plough(2), 0);
    }

    private static void promise12GoAndSnow() {
        PloughPlanner x = Towns.withRoad(1);
        x.snow(300);
        x.snow(300);
        x.snow(150);
        x.go(0);
        CHECK.due("side gone", x.depth(0, 0), 0);
        CHECK.due("never more than 999", x.depth(0, 1), 999);
        x.go(0);
        CHECK.due("half of 999", x.depth(0, 0), 499);
        CHECK.due("salt stays below pushed snow", x.isSalted(0, 0), true);
        x.strew(false);
        x.go(0);
        CHECK.due("half of 499", x.depth(0, 1), 249);
        CHECK.due("salt stays when one goes without strewing", x.isSalted(0, 0), true);
    }

    private static void promise13Fill() {
        PloughPlanner x = Towns.withRoad(30);
        CHECK.due("full already", x.fill(), 0);
        CHECK.due("4 minutes all the same", x.total(0), 4);
        x.snow(10);
        x.go(0);
        CHECK.dueThrowWithoutChange("fill() at node 1", STATE, x, x::fill);
        x.setNode(1, true, true);
        CHECK.due("fill()", x.fill(), 30);
        CHECK.due("salt", x.plough(2), 120);
        CHECK.due("minutes", x.total(0), 38);
        CHECK.due("strewn stays", x.total(1), 30);
        CHECK.due("the road it came by stays", x.plough(1), 0);
        CHECK.due("so this is a turn", x.go(0), 32);
    }

    private static void promise14Plough() {
        PloughPlanner x = Towns.withRoad(3);
        x.addRoad(0, 1, 2, 0);
        x.snow(1);
        x.go(1);
        CHECK.due("node", x.plough(0), 1);
        CHECK.due("road", x.plough(1), 1);
        CHECK.due("salt", x.plough(2), 118);
        CHECK.due("strews", x.plough(3), 1);
        x.strew(false);
        CHECK.due("strews no longer", x.plough(3), 0);
        CHECK.dueThrow("plough(-1)", INDEX, () -> x.plough(-1));
        CHECK.dueThrow("plough(4)", INDEX, () -> x.plough(4));
    }

    private static void promise21Total() {
        PloughPlanner x = Towns.withRoad(3);
        x.snow(60);
        x.go(0);
        x.go(0);
        x.fill();
        CHECK.due("minutes", x.total(0), 6 + 8 + 4);
        CHECK.due("salt", x.total(1), 6);
        CHECK.due("turns", x.total(2), 1);
        CHECK.due("roads", x.total(3), 2);
        CHECK.dueThrow("total(-1)", INDEX, () -> x.total(-1));
        CHECK.dueThrow("total(4)", INDEX, () -> x.total(4));
    }

    private static void promise22Digest() {
        PloughPlanner x = new PloughPlanner();
        CHECK.due("new", x.digest(), Towns.sum(1, 3, 0, 0, -1, 120, 1, 0, 0, 0, 0));
        x.addNode(true, false);
        x.addNode(false, true);
        x.addNode(false, false);
        x.addRoad(0, 1, 3, 0);
        x.addRoad(1, 2, 4, 1);
        x.snow(21);
        x.go(0);
        x.go(0);
        x.go(0);
        x.go(1);
        x.strew(false);
        CHECK.due("after some calls", x.digest(),
                Towns.sum(4, 3, 1, 2, 0, 2, 0, 7, 3, 0, 31, 1, 2, 1, 107, 0, 17, 13, 2, 4));
        CHECK.due("asked again", x.digest(), x.digest());
    }
}
