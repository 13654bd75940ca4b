public final class Promise06GetTest {
    private static final Check CHECK = new Check();

    public static void main(String[] args) {
        CHECK.sentence("The value of a key", Promise06GetTest::valueOfAKey);
        CHECK.sentence("which is used (LATEST)", Promise06GetTest::latestIsUsed);
        CHECK.sentence("which is used (SOFT)", Promise06GetTest::softIsUsed);
        CHECK.sentence("NONE when there is no such entry", Promise06GetTest::noSuchEntry);
        CHECK.sentence("no such map", Promise06GetTest::noSuchMap);
        CHECK.sentence("no such object", Promise06GetTest::noSuchObject);
        CHECK.sentence("PLACES' key is not as said", Promise06GetTest::placesKeyIsNotAsSaid);
        CHECK.end();
    }

    private static void valueOfAKey() {
        for (int map = 0; map < Check.MAPS; map++) {
            HoldMaps x = Check.withNumbers(32);
            x.put(map, 0, 31);
            x.put(map, 7, 0);
            x.put(map, 3, 3);
            CHECK.same("the highest value, map " + map, x.get(map, 0), 31);
            CHECK.same("the lowest value, map " + map, x.get(map, 7), 0);
            CHECK.same("and once more, map " + map, x.get(map, 7), 0);
            x.put(map, 7, 5);
            CHECK.same("the new value, map " + map, x.get(map, 7), 5);
            CHECK.same("it stays, map " + map, x.size(map), 3);
        }
    }

    private static void latestIsUsed() {
        HoldMaps x = Check.with(10, 11, 12, 10, 20);
        x.put(Check.LATEST, 0, 4);
        x.get(Check.LATEST, 0);
        CHECK.same("one alone", Check.keys(x, Check.LATEST), "0");
        Check.putAll(x, Check.LATEST, 4, 1, 2);
        x.get(Check.LATEST, 2);
        CHECK.same("the last one", Check.keys(x, Check.LATEST), "0 1 2");
        x.get(Check.LATEST, 3);
        CHECK.same("the first one, by an equal key", Check.keys(x, Check.LATEST), "1 2 0");
        x.get(Check.LATEST, 2);
        CHECK.same("one in the middle", Check.keys(x, Check.LATEST), "1 0 2");
        x.get(Check.LATEST, 4);
        CHECK.same("none", Check.keys(x, Check.LATEST), "1 0 2");
    }

    private static void softIsUsed() {
        HoldMaps x = Check.with(0, 1, 0, 3, 4, 5);
        x.put(Check.SOFT, 0, 3);
        x.put(Check.SOFT, 1, 4);
        Check.age(x, 5, 4);
        x.get(Check.SOFT, 2);
        CHECK.same("gets are counted", x.count(3), 7);
        CHECK.same("the row stays", Check.row(x, Check.SOFT), "0=3 1=4");
        x.collect(2);
        CHECK.same("what was got by an equal key is young", Check.row(x, Check.SOFT), "0=3");
    }

    private static void noSuchEntry() {
        for (int map = 0; map < Check.MAPS; map++) {
            HoldMaps x = Check.with(0, 7, 0, 5);
            CHECK.same("an empty map " + map, x.get(map, 0), Check.NONE);
            x.put(map, 0, 3);
            CHECK.same("another key, map " + map, x.get(map, 1), Check.NONE);
            CHECK.same("the value is no key, map " + map, x.get(map, 3), Check.NONE);
            CHECK.same("an equal key, map " + map, x.get(map, 2), map == Check.IDENTITY ? Check.NONE : 3);
            x.remove(map, 0);
            CHECK.same("one that went, map " + map, x.get(map, 0), Check.NONE);
            CHECK.same("none came, map " + map, x.size(map), 0);
        }
        HoldMaps x = Check.withNumbers(8);
        Check.putAll(x, Check.LATEST, 7, 0, 1, 2, 3, 4, 5, 6);
        CHECK.same("one that LATEST has lost", x.get(Check.LATEST, 0), Check.NONE);
    }

    private static void noSuchMap() {
        HoldMaps x = Check.withNumbers(2);
        for (int map : Check.outside(Check.MAPS)) {
            CHECK.badArgument("map " + map, () -> x.get(map, 0));
        }
    }

    private static void noSuchObject() {
        for (int map = 0; map < Check.MAPS; map++) {
            HoldMaps x = Check.withNumbers(3);
            int m = map;
            for (int key : Check.outside(3)) {
                CHECK.badArgument("object " + key + ", map " + map, () -> x.get(m, key));
            }
            x.collect(0);
            CHECK.badArgument("a collected one, map " + map, () -> x.get(m, 2));
            CHECK.same("no get of SOFT", x.count(3), 0);
        }
    }

    private static void placesKeyIsNotAsSaid() {
        HoldMaps x = Check.with(7, 8, 99, 0, 15, 16);
        for (int key : new int[] {1, 2, 4, 5}) {
            CHECK.badArgument("a key's value " + x.value(key), () -> x.get(Check.PLACES, key));
            for (int map : new int[] {Check.WEAK, Check.SOFT, Check.IDENTITY, Check.LATEST}) {
                CHECK.same("map " + map + " takes it", x.get(map, key), Check.NONE);
            }
        }
        CHECK.same("7 and 0", x.get(Check.PLACES, 0) + x.get(Check.PLACES, 3), -2);
    }
}
