public final class Promise01NewObjectTest {
    private static final Check CHECK = new Check();

    public static void main(String[] args) {
        CHECK.sentence("No objects", Promise01NewObjectTest::noObjects);
        CHECK.sentence("five empty maps", Promise01NewObjectTest::fiveEmptyMaps);
        CHECK.sentence("no walks", Promise01NewObjectTest::noWalks);
        CHECK.sentence("A new object", Promise01NewObjectTest::nothingInCommon);
        CHECK.end();
    }

    private static void noObjects() {
        HoldMaps x = new HoldMaps();
        CHECK.same("how many", x.count(0) + " " + x.count(1), "0 0");
        CHECK.same("which", Check.living(x), "");
        for (int object = 0; object < 32; object++) {
            int o = object;
            CHECK.badArgument("root " + object, () -> x.root(o, false) ? 1 : 0);
            CHECK.badArgument("refer " + object, () -> x.refer(o, 0, Check.NONE));
        }
        for (int pressure = 0; pressure < 4; pressure++) {
            CHECK.same("to collect with " + pressure, x.collect(pressure), 0);
        }
        CHECK.same("nothing was collected", x.count(1), 0);
        CHECK.same("the first one", x.make(0), 0);
    }

    private static void fiveEmptyMaps() {
        HoldMaps x = new HoldMaps();
        for (int map = 0; map < Check.MAPS; map++) {
            int m = map;
            CHECK.same("size of map " + map, x.size(map), 0);
            CHECK.noElement("a key in map " + map, () -> x.entry(m, 0, 0));
            CHECK.noElement("a value in map " + map, () -> x.entry(m, 0, 1));
        }
        CHECK.same("a sixth", x.size(Check.MAPS), Check.NONE);
        x.make(0);
        for (int map = 0; map < Check.MAPS; map++) {
            CHECK.same("to remove from map " + map, x.remove(map, 0), Check.NONE);
            CHECK.same("to get from map " + map, x.get(map, 0), Check.NONE);
        }
    }

    private static void noWalks() {
        HoldMaps x = new HoldMaps();
        for (int map = 0; map < Check.MAPS; map++) {
            int m = map;
            CHECK.badArgument("a step of map " + map, () -> x.step(m));
            x.make(map);
            x.put(map, map, map);
            CHECK.badArgument("a step of map " + map + ", which is not empty", () -> x.step(m));
        }
    }

    /** A static field that is not final would show here. */
    private static void nothingInCommon() {
        HoldMaps x = Check.withNumbers(8);
        HoldMaps y = new HoldMaps();
        for (int map = 0; map < Check.MAPS; map++) {
            Check.putAll(x, map, 7, 0, 1, 2, 3);
            x.walk(map);
        }
        x.root(7, true);
        x.collect(0);
        CHECK.same("counts of another one", Check.counts(y), "0 0 4 0");
        for (int map = 0; map < Check.MAPS; map++) {
            int m = map;
            CHECK.same("another one's map " + map, y.size(map), 0);
            CHECK.badArgument("another one's walk of map " + map, () -> y.step(m));
        }
        CHECK.same("objects of another one", Check.living(y), "");
    }
}
