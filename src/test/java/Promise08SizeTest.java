public final class Promise08SizeTest {
    private static final Check CHECK = new Check();

    public static void main(String[] args) {
        CHECK.sentence("How many entries a map has", Promise08SizeTest::howMany);
        CHECK.sentence("how many: only new keys count", Promise08SizeTest::onlyNewKeysCount);
        CHECK.sentence("how many: collecting takes entries", Promise08SizeTest::collectingTakesEntries);
        CHECK.sentence("NONE when there is no such map", Promise08SizeTest::noSuchMap);
        CHECK.end();
    }

    /** From none to as many as the map can have, and back to none. */
    private static void howMany() {
        int[] most = {32, 32, 12, 8, 6};
        for (int map = 0; map < Check.MAPS; map++) {
            HoldMaps x = Check.withNumbers(32);
            CHECK.same("empty map " + map, x.size(map), 0);
            for (int key = 0; key < most[map]; key++) {
                x.put(map, key, 0);
                CHECK.same("map " + map, x.size(map), key + 1);
            }
            for (int key = 0; key < most[map]; key++) {
                x.remove(map, key);
                CHECK.same("map " + map + " without " + key, x.size(map), most[map] - 1 - key);
            }
        }
    }

    private static void onlyNewKeysCount() {
        for (int map = 0; map < Check.MAPS; map++) {
            HoldMaps x = Check.with(5, 5, 6);
            Check.putAll(x, map, 2, 0, 1, 0);
            x.get(map, 2);
            x.remove(map, 2);
            CHECK.same("map " + map, x.size(map), map == Check.IDENTITY ? 2 : 1);
        }
        HoldMaps y = Check.withNumbers(8);
        Check.putAll(y, Check.LATEST, 0, 0, 1, 2, 3, 4, 5, 6, 7);
        CHECK.same("LATEST after eight", y.size(Check.LATEST), 6);
    }

    private static void collectingTakesEntries() {
        HoldMaps x = Check.withNumbers(6);
        for (int map = 0; map < Check.MAPS; map++) {
            x.put(map, map, 5);
        }
        x.remove(Check.SOFT, 1);
        x.put(Check.SOFT, 1, 1);
        x.collect(0);
        StringBuilder sizes = new StringBuilder();
        for (int map = 0; map < Check.MAPS; map++) {
            sizes.append(x.size(map));
        }
        CHECK.same("WEAK loses one", sizes.toString(), "01111");
        x.put(Check.SOFT, 1, x.make(9));
        x.collect(3);
        CHECK.same("SOFT loses one", x.size(Check.SOFT), 0);
    }

    private static void noSuchMap() {
        HoldMaps x = Check.withNumbers(2);
        for (int map = 0; map < Check.MAPS; map++) {
            x.put(map, 0, 1);
        }
        for (int map : Check.outside(Check.MAPS)) {
            CHECK.same("map " + map, x.size(map), Check.NONE);
        }
    }
}
