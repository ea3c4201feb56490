import java.util.Random;

/** Long runs of mixed calls, right and wrong ones: the planner must answer as the model does, call by call. */
public final class ModelTest {
    private static final int RUNS = 1500;
    private static final int CALLS = 512;
    private static final Check CHECK = new Check();

    private interface Call {
        double answer();
    }

    public static void main(String[] args) {
        int runs = args.length > 0 ? Integer.parseInt(args[0]) : RUNS;
        int seed = args.length > 1 ? Integer.parseInt(args[1]) : 0;
        for (int run = 0; run < runs; run++) {
            play(seed + run);
        }
        CHECK.end();
    }

    private static void play(long seed) {
        Random random = new Random(seed);
        PloughPlanner x = new PloughPlanner();
        Model m = new Model();
        // Few minutes to choose from make many ways equal, so that the last rules decide.
        int mostMinutes = new int[] {1, 2, 4, 30}[random.nextInt(4)];
        int turningsOfTen = random.nextInt(11);
        int mostRoads = 1 + random.nextInt(14);
        int mostNodes = 1 + random.nextInt(9);
        for (int node = 1; node < mostNodes; node++) {
            boolean isTurning = random.nextInt(10) < turningsOfTen;
            boolean isStore = random.nextInt(4) == 0;
            same(seed, "addNode", () -> x.addNode(isTurning, isStore), () -> m.addNode(isTurning, isStore));
        }
        for (int i = 0; i < CALLS - mostNodes; i++) {
            if (i < mostRoads || random.nextInt(100) == 0) {
                addRoad(seed, random, x, m, mostNodes, mostMinutes);
            } else {
                anyCall(seed, random, x, m);
            }
            if (x.digest() != m.digest()) {
                // Not by same(): as doubles, two long numbers can be alike that are not the same.
                CHECK.due("seed " + seed + ": digest() after call " + i, x.digest(), m.digest());
                return;
            }
        }
    }

    private static void addRoad(long seed, Random random, PloughPlanner x, Model m, int nodes, int mostMinutes) {
        int a = random.nextInt(nodes + 1) - random.nextInt(2);
        int b = random.nextInt(nodes);
        int minutes = random.nextInt(20) == 0 ? random.nextInt(40) - 4 : 1 + random.nextInt(mostMinutes);
        int priority = random.nextInt(20) == 0 ? random.nextInt(7) - 2 : random.nextInt(3);
        same(seed, "addRoad", () -> x.addRoad(a, b, minutes, priority), () -> m.addRoad(a, b, minutes, priority));
    }

    private static void anyCall(long seed, Random random, PloughPlanner x, Model m) {
        int node = number(random, 8);
        int road = number(random, 12);
        int side = number(random, 2);
        int what = number(random, 4);
        boolean isOn = random.nextBoolean();
        boolean isStore = random.nextBoolean();
        switch (random.nextInt(24)) {
            case 0 -> same(seed, "setNode", () -> of(x.setNode(node, isStore, isOn)), () -> of(m.setNode(node, isStore, isOn)));
            case 1 -> {
                int much = number(random, random.nextBoolean() ? 60 : 302);
                same(seed, "snow", () -> x.snow(much), () -> m.snow(much));
            }
            case 2 -> same(seed, "depth", () -> x.depth(road, side), () -> m.depth(road, side));
            case 3 -> same(seed, "isSalted", () -> of(x.isSalted(road, side)), () -> of(m.isSalted(road, side)));
            case 4 -> same(seed, "worst", () -> x.worst(what), () -> m.worst(what));
            case 5 -> same(seed, "reach", () -> x.reach(node), () -> m.reach(node));
            case 6 -> same(seed, "bare", x::bare, m::bare);
            case 7 -> same(seed, "strew", () -> of(x.strew(isOn || isStore)), () -> of(m.strew(isOn || isStore)));
            case 8, 9, 10, 11, 12 -> same(seed, "go", () -> x.go(road), () -> m.go(road));
            case 13 -> same(seed, "fill", x::fill, m::fill);
            case 14 -> same(seed, "plough", () -> x.plough(what), () -> m.plough(what));
            case 15, 16 -> same(seed, "way", () -> x.way(node), () -> m.way(node));
            case 17 -> same(seed, "first", () -> x.first(node), () -> m.first(node));
            case 18 -> same(seed, "wayToSide", () -> x.wayToSide(road, side), () -> m.wayToSide(road, side));
            case 19, 20 -> same(seed, "firstToSide", () -> x.firstToSide(road, side), () -> m.firstToSide(road, side));
            case 21 -> same(seed, "next", x::next, m::next);
            case 22 -> {
                int limit = number(random, random.nextInt(3) == 0 ? 303 : 30);
                same(seed, "clear", () -> x.clear(limit), () -> m.clear(limit));
            }
            default -> same(seed, "total", () -> x.total(what), () -> m.total(what));
        }
    }

    /** Mostly 0 to count - 1, seldom something far off. */
    private static int number(Random random, int count) {
        if (random.nextInt(60) == 0) {
            return new int[] {-1, -2, count, count + 1, Integer.MIN_VALUE, Integer.MAX_VALUE}[random.nextInt(6)];
        }
        return random.nextInt(count);
    }

    private static double of(boolean isOn) {
        return isOn ? 1 : 0;
    }

    private static void same(long seed, String call, Call planner, Call model) {
        String got = outcome(planner);
        String want = outcome(model);
        if (!got.equals(want)) {
            CHECK.due("seed " + seed + ": " + call + " answered " + got + " instead of " + want, false, true);
        }
    }

    private static String outcome(Call call) {
        try {
            return Double.toString(call.answer());
        } catch (RuntimeException e) {
            return e.getClass().getName();
        }
    }
}
