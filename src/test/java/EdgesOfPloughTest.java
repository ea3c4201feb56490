import java.math.BigInteger;

/** Promises 11 to 14, 21 and 22 at their edges: each test names the promise and the words that it holds to. */
public final class EdgesOfPloughTest {
    private static final Class<IndexOutOfBoundsException> INDEX = IndexOutOfBoundsException.class;
    private static final Class<IllegalStateException> STATE = IllegalStateException.class;
    private static final int MIN = Integer.MIN_VALUE;
    private static final int MAX = Integer.MAX_VALUE;
    private static final Check CHECK = new Check();

    public static void main(String[] args) {
        strewAtFirst();
        strewToldBefore();
        goNoSuchRoad();
        goNotAnEndOfTheRoad();
        goBackOnlyAtATurningPlace();
        goAtFirstIsNoTurn();
        goByAnotherRoadIsNoTurn();
        goBackAfterSetNode();
        goRefusedChangesNothing();
        goTwiceTheMinutesFromFifty();
        goMinutesFromLeastToMost();
        goLooksAtItsOwnSideAlone();
        goSaltsOnlySnow();
        goWithAsMuchSaltAsMinutes();
        goDownToNoSalt();
        goWithoutStrewing();
        goPushesHalfCutTowardsZero();
        goPushesUpTo999();
        fillNoStore();
        fillFromEmptyToFull();
        fillWhenFull();
        fillKeepsTheRoad();
        ploughOutsideItsBounds();
        ploughAtFirst();
        ploughRoadItCameBy();
        totalOutsideItsBounds();
        totalAtFirst();
        totalOfRefusedCalls();
        totalOfAllThatItDid();
        digestOfTheSmallest();
        digestOfTheLargest();
        digestWrapsAround();
        digestChangesNothing();
        lastOfFiveHundredAndTwelveCalls();
        CHECK.end();
    }

    // ---- promise 11

    private static void strewAtFirst() {
        CHECK.sentence("Promise 11", "it strews or does not (it does, at first)");
        PloughPlanner x = new PloughPlanner();
        CHECK.due("plough(3)", x.plough(3), 1);
        CHECK.due("strew(false)", x.strew(false), true);
        PloughPlanner y = new PloughPlanner();
        CHECK.due("strew(true)", y.strew(true), true);
    }

    private static void strewToldBefore() {
        CHECK.sentence("Promise 11", "Returns whether it did before");
        PloughPlanner x = new PloughPlanner();
        x.strew(false);
        CHECK.due("off to off", x.strew(false), false);
        CHECK.due("plough(3)", x.plough(3), 0);
        CHECK.due("off to on", x.strew(true), false);
        CHECK.due("plough(3)", x.plough(3), 1);
        CHECK.due("on to on", x.strew(true), true);
        CHECK.due("on to off", x.strew(false), true);
    }

    // ---- promise 12

    private static void goNoSuchRoad() {
        CHECK.sentence("Promise 12", "IndexOutOfBoundsException if there is no such road");
        PloughPlanner x = Towns.full();
        for (int road : new int[] {-1, 12, 13, MIN, MAX, 1 << 30}) {
            CHECK.dueThrowWithoutChange("go(" + road + ")", INDEX, x, () -> x.go(road));
        }
        PloughPlanner y = new PloughPlanner();
        CHECK.dueThrowWithoutChange("go(0) without roads", INDEX, y, () -> y.go(0));
        CHECK.dueThrowWithoutChange("go(-1), by no road it came", INDEX, y, () -> y.go(-1));
        y.addNode(false, false);
        y.addRoad(0, 1, 1, 0);
        CHECK.dueThrowWithoutChange("go(1) with one road", INDEX, y, () -> y.go(1));
        CHECK.due("go(0), the first and the last road", y.go(0), 1);
    }

    private static void goNotAnEndOfTheRoad() {
        CHECK.sentence("Promise 12", "From its node it can go by each road that has this node as an end");
        PloughPlanner x = Towns.full();
        for (int road = 0; road < 12; road++) {
            boolean isAtAnEnd = road % 8 == 0 || (road + 1) % 8 == 0;
            int away = road;
            if (!isAtAnEnd) {
                CHECK.dueThrowWithoutChange("go(" + road + ")", STATE, x, () -> x.go(away));
            }
        }
        CHECK.due("go(7), whose end b is node 0", x.go(7), 8);
        CHECK.due("its node", x.plough(0), 7);
        CHECK.dueThrowWithoutChange("go(0), which starts where it was before", STATE, x, () -> x.go(0));
        CHECK.due("go(6), whose end b is node 7", x.go(6), 7);
        CHECK.due("its node", x.plough(0), 6);
    }

    private static void goBackOnlyAtATurningPlace() {
        CHECK.sentence("Promise 12", "only if the node is a turning place, and this is a turn, which takes 2 minutes more");
        PloughPlanner x = Towns.withNodes(3);
        x.addRoad(0, 1, 5, 0);
        x.addRoad(1, 2, 6, 0);
        CHECK.due("go(0)", x.go(0), 5);
        CHECK.dueThrowWithoutChange("go(0) back at node 1", STATE, x, () -> x.go(0));
        x.go(1);
        CHECK.dueThrowWithoutChange("go(1) back at node 2, where no other road is", STATE, x, () -> x.go(1));
        PloughPlanner y = Towns.withRoad(5);
        y.go(0);
        CHECK.due("go(0) back at a turning place", y.go(0), 7);
        CHECK.due("one turn", y.total(2), 1);
        CHECK.due("go(0) and back at node 0", y.go(0), 7);
        CHECK.due("two turns", y.total(2), 2);
    }

    private static void goAtFirstIsNoTurn() {
        CHECK.sentence("Promise 12", "knows by which road it came there, if it was driven already");
        PloughPlanner x = Towns.withNodes(2);
        x.addRoad(0, 1, 5, 0);
        x.setNode(0, false, false);
        CHECK.due("it came by no road, so no turning place is needed", x.go(0), 5);
        CHECK.due("no turn", x.total(2), 0);
        PloughPlanner y = Towns.withRoad(5);
        CHECK.due("nor are there 2 minutes more at one", y.go(0), 5);
        CHECK.due("no turn", y.total(2), 0);
    }

    private static void goByAnotherRoadIsNoTurn() {
        CHECK.sentence("Promise 12", "by the one by which it came there only if the node is a turning place");
        PloughPlanner x = Towns.withNodes(2);
        x.addRoad(0, 1, 5, 0);
        x.addRoad(0, 1, 6, 0);
        x.go(0);
        CHECK.due("back by the other road", x.go(1), 6);
        CHECK.due("no turn", x.total(2), 0);
        CHECK.due("the road by which it came", x.plough(1), 1);
        CHECK.due("round again, as it came by road 1", x.go(0), 5);
        CHECK.due("no turn", x.total(2), 0);
    }

    private static void goBackAfterSetNode() {
        CHECK.sentence("Promise 12", "only if the node is a turning place");
        PloughPlanner x = Towns.withRoad(5);
        x.go(0);
        x.setNode(1, false, false);
        CHECK.dueThrowWithoutChange("a turning place no longer", STATE, x, () -> x.go(0));
        x.setNode(1, true, true);
        CHECK.dueThrowWithoutChange("a store is no turning place", STATE, x, () -> x.go(0));
        x.setNode(0, false, false);
        x.setNode(1, false, true);
        CHECK.due("the node where it goes need not be one", x.go(0), 7);
        CHECK.dueThrowWithoutChange("node 0 is none", STATE, x, () -> x.go(0));
    }

    private static void goRefusedChangesNothing() {
        CHECK.sentence("Promise 12", "A method that throws an exception changes nothing");
        PloughPlanner x = Towns.withNodes(3);
        x.addRoad(0, 1, 5, 0);
        x.addRoad(2, 0, 5, 0);
        x.snow(300);
        x.go(0);
        CHECK.dueThrowWithoutChange("go(0) back", STATE, x, () -> x.go(0));
        CHECK.dueThrowWithoutChange("go(1) elsewhere", STATE, x, () -> x.go(1));
        CHECK.dueThrowWithoutChange("go(2)", INDEX, x, () -> x.go(2));
        CHECK.due("side 1 as it was", x.depth(0, 1), 450);
        CHECK.due("salt as it was", x.plough(2), 115);
    }

    private static void goTwiceTheMinutesFromFifty() {
        CHECK.sentence("Promise 12", "twice these minutes if there are 50 millimetres or more on the side");
        CHECK.due("0 millimetres", Towns.withRoad(7).go(0), 7);
        CHECK.due("1 millimetre", Towns.withSnow(7, 1).go(0), 7);
        CHECK.due("49 millimetres", Towns.withSnow(7, 49).go(0), 7);
        CHECK.due("50 millimetres", Towns.withSnow(7, 50).go(0), 14);
        CHECK.due("51 millimetres", Towns.withSnow(7, 51).go(0), 14);
        CHECK.due("999 millimetres", Towns.withSnow(7, 999).go(0), 14);
        PloughPlanner x = Towns.withSnow(7, 33);
        x.go(0);
        CHECK.due("33 and 16 pushed onto them are 49, and a turn", x.go(0), 9);
        PloughPlanner y = Towns.withSnow(7, 34);
        y.go(0);
        CHECK.due("34 and 17 pushed onto them are 51; the turn is not doubled", y.go(0), 16);
    }

    private static void goMinutesFromLeastToMost() {
        CHECK.sentence("Promise 12", "It takes the minutes of the road");
        CHECK.due("1 minute", Towns.withRoad(1).go(0), 1);
        CHECK.due("30 minutes", Towns.withRoad(30).go(0), 30);
        CHECK.due("1 minute, deep snow", Towns.withSnow(1, 300).go(0), 2);
        PloughPlanner x = Towns.withSnow(30, 300);
        CHECK.due("30 minutes, deep snow", x.go(0), 60);
        CHECK.due("30 minutes, deep snow, a turn", x.go(0), 62);
    }

    private static void goLooksAtItsOwnSideAlone() {
        CHECK.sentence("Promise 12", "Going from one end of a road to the other one it clears the side on which it goes");
        PloughPlanner x = Towns.withSnow(5, 40);
        x.go(0);
        CHECK.due("the side on which it went", x.depth(0, 0), 0);
        CHECK.due("the other side", x.depth(0, 1), 60);
        x.go(0);
        CHECK.due("the other side, deep", x.depth(0, 1), 0);
        CHECK.due("pushed back", x.depth(0, 0), 30);
        x.go(0);
        CHECK.due("salt of three", x.plough(2), 105);
        CHECK.due("15 on the other side", x.depth(0, 1), 15);
        CHECK.due("no snow on this one, though on the other one", x.depth(0, 0), 0);
    }

    private static void goSaltsOnlySnow() {
        CHECK.sentence("Promise 12", "If there is snow on the side");
        PloughPlanner x = Towns.withRoad(5);
        x.go(0);
        CHECK.due("no snow, not salted", x.isSalted(0, 0), false);
        CHECK.due("no snow, no salt", x.plough(2), 120);
        PloughPlanner y = Towns.withSnow(5, 1);
        y.go(0);
        CHECK.due("1 millimetre, salted", y.isSalted(0, 0), true);
        CHECK.due("1 millimetre, salt of 5 minutes", y.plough(2), 115);
        CHECK.due("the other side is not salted", y.isSalted(0, 1), false);
        y.go(0);
        y.go(0);
        CHECK.due("side 0 is bare now: salt of side 1 alone", y.plough(2), 110);
        CHECK.due("it stays salted", y.isSalted(0, 0), true);
        PloughPlanner z = Towns.withSnow(5, 300);
        z.go(0);
        CHECK.due("the salt is not doubled by deep snow", z.plough(2), 115);
        z.go(0);
        CHECK.due("nor more by a turn", z.plough(2), 110);
    }

    private static void goWithAsMuchSaltAsMinutes() {
        CHECK.sentence("Promise 12", "and has at least as much salt as the road has minutes");
        PloughPlanner x = Towns.withSaltLeft(3);
        x.addRoad(0, 1, 4, 0);
        x.addRoad(0, 1, 3, 0);
        x.snow(10);
        x.go(2);
        CHECK.due("4 minutes, not salted", x.isSalted(2, 0), false);
        CHECK.due("still 3", x.plough(2), 3);
        CHECK.due("cleared all the same", x.depth(2, 0), 0);
        CHECK.due("pushed all the same", x.depth(2, 1), 15);
        x.go(3);
        CHECK.due("3 minutes, salted", x.isSalted(3, 1), true);
        CHECK.due("0 left", x.plough(2), 0);
        x.go(1);
        CHECK.due("1 minute, not salted", x.isSalted(1, 0), false);
        CHECK.due("never less than 0", x.plough(2), 0);
    }

    private static void goDownToNoSalt() {
        CHECK.sentence("Promise 12", "It has salt, 0 to 120, at first 120");
        PloughPlanner x = Towns.withSnow(30, 300);
        CHECK.due("at first", x.plough(2), 120);
        for (int left = 90; left >= 0; left -= 30) {
            x.go(0);
            CHECK.due("30 less", x.plough(2), left);
        }
        x.snow(300);
        x.go(0);
        CHECK.due("not less than 0", x.plough(2), 0);
        CHECK.due("no salt strewn", x.isSalted(0, 0), false);
        CHECK.due("total(1)", x.total(1), 120);
    }

    private static void goWithoutStrewing() {
        CHECK.sentence("Promise 12", "and the plough strews");
        PloughPlanner x = Towns.withSnow(5, 10);
        x.go(0);
        x.strew(false);
        x.go(0);
        CHECK.due("not salted", x.isSalted(0, 1), false);
        CHECK.due("no salt less", x.plough(2), 115);
        CHECK.due("cleared", x.depth(0, 1), 0);
        x.go(0);
        CHECK.due("salted before, and still", x.isSalted(0, 0), true);
    }

    private static void goPushesHalfCutTowardsZero() {
        CHECK.sentence("Promise 12", "half of it (cut towards 0) comes to the other side of the road");
        int[][] halves = {{1, 0}, {2, 1}, {3, 1}, {4, 2}, {299, 149}, {300, 150}};
        for (int[] half : halves) {
            PloughPlanner x = Towns.withSnow(1, half[0]);
            x.go(0);
            CHECK.due("half of " + half[0], x.depth(0, 1), half[0] + half[1]);
            CHECK.due("the side of it", x.depth(0, 0), 0);
        }
        PloughPlanner y = Towns.withRoad(1);
        y.go(0);
        CHECK.due("half of nothing", y.depth(0, 1), 0);
    }

    private static void goPushesUpTo999() {
        CHECK.sentence("Promise 12", "the other side of the road, which never has more than 999");
        int[][] pushed = {{665, 997}, {666, 999}, {667, 999}, {668, 999}, {998, 999}, {999, 999}};
        for (int[] push : pushed) {
            PloughPlanner x = Towns.withSnow(1, push[0]);
            x.go(0);
            CHECK.due("from " + push[0], x.depth(0, 1), push[1]);
            CHECK.due("the side of it", x.depth(0, 0), 0);
        }
        PloughPlanner y = Towns.withSnow(1, 999);
        y.go(0);
        y.go(0);
        CHECK.due("half of 999 onto the bare side", y.depth(0, 0), 499);
    }

    // ---- promise 13

    private static void fillNoStore() {
        CHECK.sentence("Promise 13", "IllegalStateException if its node is no store");
        PloughPlanner x = Towns.withSnow(5, 10);
        x.go(0);
        CHECK.dueThrowWithoutChange("fill() at node 1", STATE, x, x::fill);
        x.setNode(1, false, true);
        CHECK.dueThrowWithoutChange("fill() at a turning place", STATE, x, x::fill);
        x.setNode(1, true, true);
        CHECK.due("fill() at a store", x.fill(), 5);
        x.setNode(1, true, false);
        CHECK.dueThrowWithoutChange("fill() at no store any longer", STATE, x, x::fill);
        PloughPlanner y = new PloughPlanner();
        y.setNode(0, true, false);
        CHECK.dueThrowWithoutChange("fill() at node 0, no store, and full", STATE, y, y::fill);
    }

    private static void fillFromEmptyToFull() {
        CHECK.sentence("Promise 13", "Returns how much comes in");
        PloughPlanner x = Towns.withSnow(30, 300);
        for (int i = 0; i < 4; i++) {
            x.go(0);
        }
        CHECK.due("empty", x.plough(2), 0);
        CHECK.due("fill()", x.fill(), 120);
        CHECK.due("full", x.plough(2), 120);
        CHECK.due("fill() again", x.fill(), 0);
        PloughPlanner y = Towns.withSnow(1, 1);
        y.go(0);
        y.setNode(1, true, true);
        CHECK.due("1 is missing", y.fill(), 1);
    }

    private static void fillWhenFull() {
        CHECK.sentence("Promise 13", "At a store it can be filled up with salt, which takes 4 minutes");
        PloughPlanner x = new PloughPlanner();
        CHECK.due("fill() when full", x.fill(), 0);
        CHECK.due("4 minutes", x.total(0), 4);
        CHECK.due("no more than 120", x.plough(2), 120);
        x.strew(false);
        CHECK.due("fill() without strewing", x.fill(), 0);
        CHECK.due("8 minutes", x.total(0), 8);
        CHECK.due("nothing strewn, turned or gone", x.total(1) + x.total(2) + x.total(3), 0);
    }

    private static void fillKeepsTheRoad() {
        CHECK.sentence("Promise 13", "Fills the plough up with salt");
        PloughPlanner x = new PloughPlanner();
        x.fill();
        CHECK.due("still by no road", x.plough(1), -1);
        PloughPlanner y = Towns.withRoad(5);
        y.go(0);
        y.setNode(1, true, true);
        y.setNode(1, false, false);
        y.fill();
        CHECK.due("still by road 0", y.plough(1), 0);
        CHECK.dueThrowWithoutChange("no turning place by filling up", STATE, y, () -> y.go(0));
    }

    // ---- promise 14

    private static void ploughOutsideItsBounds() {
        CHECK.sentence("Promise 14", "IndexOutOfBoundsException if what is not 0 to 3");
        PloughPlanner x = new PloughPlanner();
        for (int what : new int[] {-1, -2, 4, 5, MIN, MAX}) {
            CHECK.dueThrowWithoutChange("plough(" + what + ")", INDEX, x, () -> x.plough(what));
        }
        CHECK.due("plough(0)", x.plough(0), 0);
        CHECK.due("plough(3)", x.plough(3), 1);
    }

    private static void ploughAtFirst() {
        CHECK.sentence("Promise 14", "1 the road by which it came there, -1 if there is none");
        PloughPlanner x = Towns.withRoad(5);
        CHECK.due("at node 0", x.plough(0), 0);
        CHECK.due("by no road", x.plough(1), -1);
        CHECK.due("with 120 of salt", x.plough(2), 120);
        CHECK.due("strewing", x.plough(3), 1);
        CHECK.dueThrow("a refused go", INDEX, () -> x.go(1));
        CHECK.due("still by no road", x.plough(1), -1);
        CHECK.due("clear without snow", x.clear(300), 0);
        CHECK.due("still by no road", x.plough(1), -1);
    }

    private static void ploughRoadItCameBy() {
        CHECK.sentence("Promise 14", "0 its node; 1 the road by which it came there");
        PloughPlanner x = Towns.full();
        CHECK.due("go(0)", x.go(0), 1);
        CHECK.due("node 1", x.plough(0), 1);
        CHECK.due("by road 0", x.plough(1), 0);
        for (int road = 1; road < 12; road++) {
            x.go(road);
            CHECK.due("node", x.plough(0), (road + 1) % 8);
            CHECK.due("road", x.plough(1), road);
        }
    }

    // ---- promise 21

    private static void totalOutsideItsBounds() {
        CHECK.sentence("Promise 21", "IndexOutOfBoundsException if what is not 0 to 3");
        PloughPlanner x = Towns.withRoad(5);
        x.go(0);
        for (int what : new int[] {-1, -2, 4, 5, MIN, MAX}) {
            CHECK.dueThrowWithoutChange("total(" + what + ")", INDEX, x, () -> x.total(what));
        }
        CHECK.due("total(0)", x.total(0), 5);
        CHECK.due("total(3)", x.total(3), 1);
    }

    private static void totalAtFirst() {
        CHECK.sentence("Promise 21", "0 the minutes of all that the plough did, 1 the salt that it strewed, 2 its turns");
        PloughPlanner x = Towns.full();
        x.snow(300);
        x.strew(false);
        x.next();
        x.clear(0);
        for (int what = 0; what <= 3; what++) {
            CHECK.due("total(" + what + "), not driven yet", x.total(what), 0);
        }
    }

    private static void totalOfRefusedCalls() {
        CHECK.sentence("Promise 21", "A method that throws an exception changes nothing");
        PloughPlanner x = Towns.withRoad(5);
        x.go(0);
        x.setNode(1, false, false);
        CHECK.dueThrow("go(0) back", STATE, () -> x.go(0));
        CHECK.dueThrow("fill()", STATE, x::fill);
        CHECK.dueThrow("clear(301)", IllegalArgumentException.class, () -> x.clear(301));
        CHECK.due("minutes", x.total(0), 5);
        CHECK.due("salt", x.total(1), 0);
        CHECK.due("turns", x.total(2), 0);
        CHECK.due("roads", x.total(3), 1);
    }

    private static void totalOfAllThatItDid() {
        CHECK.sentence("Promise 21", "the minutes of all that the plough did");
        PloughPlanner x = Towns.withSnow(5, 100);
        CHECK.due("go(0)", x.go(0), 10);
        CHECK.due("fill() is refused at node 1; back", x.go(0), 12);
        CHECK.due("fill()", x.fill(), 10);
        CHECK.due("clear(1): 75 millimetres on side 0", x.clear(1), 12);
        CHECK.due("minutes", x.total(0), 10 + 12 + 4 + 12);
        CHECK.due("salt, filling up does not take it back", x.total(1), 15);
        CHECK.due("turns, those of clearing too", x.total(2), 2);
        CHECK.due("roads, those of clearing too", x.total(3), 3);
    }

    // ---- promise 22

    private static void digestOfTheSmallest() {
        CHECK.sentence("Promise 22", "the number of nodes, and for each of them 1 if it is a turning place, plus 2 if it is a store");
        int[] kinds = {3, 1, 2, 0};
        for (int kind : kinds) {
            PloughPlanner x = new PloughPlanner();
            x.setNode(0, false, (kind & 1) != 0);
            x.setNode(0, true, (kind & 2) != 0);
            CHECK.due("one node, no roads", x.digest(), Towns.sum(1, kind, 0, 0, -1, 120, 1, 0, 0, 0, 0));
        }
    }

    private static void digestOfTheLargest() {
        CHECK.sentence("Promise 22", "the number of roads, and for each of them the snow on side 0 and on side 1");
        PloughPlanner x = Towns.full();
        Towns.letItSnow(x, 999);
        CHECK.due("8 nodes, 12 roads, 999 on each side", x.digest(), Towns.sum(8, 3, 1, 1, 1, 1, 1, 1, 1, 12,
                999, 999, 0, 999, 999, 0, 999, 999, 0, 999, 999, 0, 999, 999, 0, 999, 999, 0,
                999, 999, 0, 999, 999, 0, 999, 999, 0, 999, 999, 0, 999, 999, 0, 999, 999, 0,
                0, -1, 120, 1, 0, 0, 0, 0));
        x.go(0);
        x.go(0);
        x.go(7);
        CHECK.due("1 if side 0 is salted, plus 2 if side 1 is", x.digest(), Towns.sum(8, 3, 1, 1, 1, 1, 1, 1, 1, 12,
                499, 0, 3, 999, 999, 0, 999, 999, 0, 999, 999, 0, 999, 999, 0, 999, 999, 0,
                999, 999, 0, 999, 0, 2, 999, 999, 0, 999, 999, 0, 999, 999, 0, 999, 999, 0,
                7, 7, 110, 1, 2 + 4 + 16, 10, 1, 3));
    }

    private static void digestWrapsAround() {
        CHECK.sentence("Promise 22", "d becomes d * 31 + x, which wraps around as a 64-bit integer");
        PloughPlanner x = Towns.withNodes(8);
        int[] numbers = {8, 3, 0, 0, 0, 0, 0, 0, 0, 0, 0, -1, 120, 1, 0, 0, 0, 0};
        BigInteger d = BigInteger.valueOf(223);
        for (int number : numbers) {
            d = d.multiply(BigInteger.valueOf(31)).add(BigInteger.valueOf(number));
        }
        CHECK.due("the whole number is beyond 64 bits", d.bitLength() > 64, true);
        CHECK.due("digest() is its lowest 64 bits", x.digest(), d.longValue());
    }

    private static void digestChangesNothing() {
        CHECK.sentence("Promise 22", "Computes a checksum");
        PloughPlanner x = Towns.full();
        x.snow(70);
        x.go(0);
        long before = x.digest();
        CHECK.due("digest() again", x.digest(), before);
        x.bare();
        x.reach(0);
        x.worst(0);
        x.way(5);
        x.first(5);
        x.wayToSide(5, 1);
        x.firstToSide(5, 1);
        x.next();
        CHECK.due("digest() after calls that only ask", x.digest(), before);
    }

    private static void lastOfFiveHundredAndTwelveCalls() {
        CHECK.sentence("Promises 12 and 21", "An object is used for at most 512 calls after it has been made");
        PloughPlanner x = Towns.withRoad(30);
        for (int call = 3; call <= 511; call++) {
            CHECK.due("call " + call, x.go(0), call == 3 ? 30 : 32);
        }
        CHECK.due("call 512", x.total(0), 30 + 508 * 32);
    }
}
