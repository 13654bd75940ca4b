public final class Promise10WalkTest {
    private static final Check CHECK = new Check();

    public static void main(String[] args) {
        CHECK.sentence("A walk of a map begins", Promise10WalkTest::begins);
        CHECK.sentence("a walk of an empty map", Promise10WalkTest::emptyMap);
        CHECK.sentence("in place of the one it had", Promise10WalkTest::inPlaceOfTheOneItHad);
        CHECK.sentence("in place of the one it had, which was broken", Promise10WalkTest::inPlaceOfABrokenOne);
        CHECK.sentence("the one it had: each map has its own", Promise10WalkTest::eachMapHasItsOwn);
        CHECK.sentence("no such map", Promise10WalkTest::noSuchMap);
        CHECK.end();
    }

    private static void begins() {
        for (int map = 0; map < Check.MAPS; map++) {
            HoldMaps x = Check.withNumbers(3);
            int m = map;
            Check.putAll(x, map, 2, 0, 1);
            CHECK.badArgument("before it, map " + map, () -> x.step(m));
            x.walk(map);
            CHECK.same("map " + map, Check.steps(x, map), "0 1 NoSuchElementException");
        }
    }

    private static void emptyMap() {
        for (int map = 0; map < Check.MAPS; map++) {
            HoldMaps x = Check.withNumbers(3);
            int m = map;
            x.walk(map);
            CHECK.noElement("map " + map, () -> x.step(m));
            x.put(map, 0, 0);
            CHECK.badState("when it is empty no more, map " + map, () -> x.step(m));
            x.walk(map);
            CHECK.same("begun anew, map " + map, Check.steps(x, map), "0 NoSuchElementException");
        }
    }

    private static void inPlaceOfTheOneItHad() {
        for (int map = 0; map < Check.MAPS; map++) {
            HoldMaps x = Check.withNumbers(3);
            Check.putAll(x, map, 2, 0, 1);
            x.walk(map);
            x.walk(map);
            CHECK.same("one not begun, map " + map, x.step(map), 0);
            x.walk(map);
            CHECK.same("one in its midst, map " + map, Check.steps(x, map), "0 1 NoSuchElementException");
            x.walk(map);
            CHECK.same("one at its end, map " + map, Check.steps(x, map), "0 1 NoSuchElementException");
        }
    }

    private static void inPlaceOfABrokenOne() {
        for (int map = 0; map < Check.MAPS; map++) {
            HoldMaps x = Check.withNumbers(3);
            int m = map;
            x.put(map, 0, 2);
            x.walk(map);
            x.step(map);
            x.put(map, 1, 2);
            CHECK.badState("broken, map " + map, () -> x.step(m));
            x.walk(map);
            CHECK.same("map " + map, Check.steps(x, map), "0 1 NoSuchElementException");
        }
    }

    private static void eachMapHasItsOwn() {
        HoldMaps x = Check.withNumbers(3);
        for (int map = 0; map < Check.MAPS; map++) {
            Check.putAll(x, map, 2, 0, 1);
        }
        for (int map = 0; map < Check.MAPS; map++) {
            int m = map;
            CHECK.badArgument("none yet, map " + map, () -> x.step(m));
            x.walk(map);
            for (int i = 0; i < map && i < 2; i++) {
                x.step(map);
            }
        }
        x.walk(Check.IDENTITY);
        String end = "NoSuchElementException";
        String[] due = {"0 1 " + end, "1 " + end, "0 1 " + end, end, end};
        for (int map = 0; map < Check.MAPS; map++) {
            CHECK.same("map " + map, Check.steps(x, map), due[map]);
        }
    }

    private static void noSuchMap() {
        HoldMaps x = Check.withNumbers(2);
        for (int map : Check.outside(Check.MAPS)) {
            CHECK.badArgument("map " + map, () -> {
                x.walk(map);
                return 0;
            });
        }
        for (int map = 0; map < Check.MAPS; map++) {
            int m = map;
            CHECK.badArgument("none has begun, map " + map, () -> x.step(m));
        }
    }
}
