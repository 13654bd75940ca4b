public final class Promise06GetTest {
    private static final Check CHECK = new Check();

    public static void main(String[] args) {
        wrongArguments();
        for (int map = 0; map < 5; map++) {
            findsSameKeys(map);
        }
        latestIsUsed();
        softIsUsed();
        CHECK.end();
    }

    private static void wrongArguments() {
        HoldMaps x = Check.withNumbers(9);
        int[] noMaps = {-1, 5, Integer.MIN_VALUE, Integer.MAX_VALUE};
        for (int map : noMaps) {
            CHECK.badArgument("no map " + map, x, () -> x.get(map, 0));
        }
        int[] noObjects = {-1, 9, 31, 32, Integer.MIN_VALUE, Integer.MAX_VALUE};
        for (int object : noObjects) {
            for (int map = 0; map < 5; map++) {
                int m = map;
                CHECK.badArgument("no object " + object, x, () -> x.get(m, object));
            }
        }
        CHECK.badArgument("PLACES has no 8", x, () -> x.get(Check.PLACES, 8));
        CHECK.same("PLACES has a 7", x.get(Check.PLACES, 7), Check.NONE);
    }

    private static void findsSameKeys(int map) {
        HoldMaps x = Check.with(4, 4, 6, 5);
        x.put(map, 0, 2);
        x.put(map, 3, 0);
        CHECK.same("the key itself in map " + map, x.get(map, 0), 2);
        CHECK.same("an equal one in map " + map, x.get(map, 1), map == Check.IDENTITY ? Check.NONE : 2);
        CHECK.same("another one in map " + map, x.get(map, 2), Check.NONE);
        CHECK.same("a second entry in map " + map, x.get(map, 3), 0);
        CHECK.same("nothing comes or goes in map " + map, x.size(map), 2);
    }

    private static void latestIsUsed() {
        HoldMaps x = Check.with(10, 11, 12, 10, 20);
        Check.putAll(x, Check.LATEST, 4, 0, 1, 2);
        x.get(Check.LATEST, 3);
        CHECK.same("an equal key uses the entry", Check.keys(x, Check.LATEST), "1 2 0");
        x.get(Check.LATEST, 4);
        CHECK.same("none is used", Check.keys(x, Check.LATEST), "1 2 0");
        x.get(Check.LATEST, 0);
        CHECK.same("the last one stays", Check.keys(x, Check.LATEST), "1 2 0");
        x.get(Check.LATEST, 2);
        CHECK.same("one in the middle", Check.keys(x, Check.LATEST), "1 0 2");
    }

    private static void softIsUsed() {
        HoldMaps x = Check.withNumbers(6);
        x.put(Check.SOFT, 0, 3);
        x.put(Check.SOFT, 1, 4);
        for (int i = 0; i < 4; i++) {
            x.get(Check.SOFT, 5);
        }
        x.get(Check.SOFT, 0);
        CHECK.same("gets are counted, found or not", x.count(3), 7);
        CHECK.same("the row stays", Check.row(x, Check.SOFT), "0=3 1=4");
        x.collect(2);
        CHECK.same("what was got is young", Check.row(x, Check.SOFT), "0=3");
    }
}
