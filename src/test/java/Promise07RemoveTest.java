/** What remove answers and leaves; how IDENTITY closes up is tested with the terms. */
public final class Promise07RemoveTest {
    private static final Check CHECK = new Check();

    public static void main(String[] args) {
        CHECK.sentence("Takes an entry away", Promise07RemoveTest::takesAway);
        CHECK.sentence("an entry: the first, the last, the only one", Promise07RemoveTest::anyPlace);
        CHECK.sentence("its value", Promise07RemoveTest::itsValue);
        CHECK.sentence("or NONE when there is none", Promise07RemoveTest::noneWhenThereIsNone);
        CHECK.sentence("to take away is no put or get", Promise07RemoveTest::isNoUse);
        CHECK.sentence("as with get(): no such map", Promise07RemoveTest::noSuchMap);
        CHECK.sentence("as with get(): no such object", Promise07RemoveTest::noSuchObject);
        CHECK.sentence("as with get(): PLACES' key is not as said", Promise07RemoveTest::placesKeyIsNotAsSaid);
        CHECK.end();
    }

    private static void takesAway() {
        for (int map = 0; map < Check.MAPS; map++) {
            HoldMaps x = Check.withNumbers(8);
            for (int other = 0; other < Check.MAPS; other++) {
                x.put(other, 5, 0);
                x.put(other, 6, 1);
            }
            x.remove(map, 5);
            for (int other = 0; other < Check.MAPS; other++) {
                String due = other == map ? "6=1" : "5=0 6=1";
                CHECK.same("map " + other + ", taken from " + map, Check.row(x, other), due);
            }
            CHECK.same("objects stay", x.count(0), 8);
        }
    }

    private static void anyPlace() {
        for (int map = 0; map < Check.MAPS; map++) {
            HoldMaps x = Check.withNumbers(7);
            Check.putAll(x, map, 6, 0, 1, 2, 3, 4);
            String row = map == Check.IDENTITY ? "0 3 1 4 2" : "0 1 2 3 4";
            CHECK.same("map " + map, Check.keys(x, map), row);
            x.remove(map, 0);
            row = row.replace("0 ", "");
            CHECK.same("without the first one, map " + map, Check.keys(x, map), row);
            x.remove(map, map == Check.IDENTITY ? 2 : 4);
            row = row.substring(0, row.length() - 2);
            CHECK.same("without the last one, map " + map, Check.keys(x, map), row);
            x.remove(map, map == Check.IDENTITY ? 1 : 2);
            row = map == Check.IDENTITY ? "3 4" : "1 3";
            CHECK.same("without the middle one, map " + map, Check.keys(x, map), row);
            x.remove(map, map == Check.IDENTITY ? 4 : 1);
            CHECK.same("one is left, map " + map, Check.keys(x, map), "3");
            x.remove(map, 3);
            CHECK.same("none is left, map " + map, x.size(map), 0);
            x.put(map, 4, 6);
            CHECK.same("one comes again, map " + map, Check.row(x, map), "4=6");
        }
    }

    private static void itsValue() {
        for (int map = 0; map < Check.MAPS; map++) {
            HoldMaps x = Check.withNumbers(32);
            x.put(map, 0, 31);
            x.put(map, 7, 5);
            x.put(map, 7, 0);
            CHECK.same("the highest value, map " + map, x.remove(map, 0), 31);
            CHECK.same("the lowest value, which came last, map " + map, x.remove(map, 7), 0);
        }
    }

    private static void noneWhenThereIsNone() {
        for (int map = 0; map < Check.MAPS; map++) {
            HoldMaps x = Check.with(0, 7, 0, 5);
            CHECK.same("an empty map " + map, x.remove(map, 0), Check.NONE);
            x.put(map, 0, 3);
            CHECK.same("another key, map " + map, x.remove(map, 1), Check.NONE);
            CHECK.same("the value is no key, map " + map, x.remove(map, 3), Check.NONE);
            boolean one = map == Check.IDENTITY;
            CHECK.same("an equal key, map " + map, x.remove(map, 2), one ? Check.NONE : 3);
            CHECK.same("the key, map " + map, x.remove(map, 0), one ? 3 : Check.NONE);
            CHECK.same("once more, map " + map, x.remove(map, 0), Check.NONE);
            CHECK.same("the map is empty again, map " + map, x.size(map), 0);
        }
    }

    /** An entry of SOFT that remove did not find or that stays must not grow younger or older. */
    private static void isNoUse() {
        HoldMaps x = Check.withNumbers(6);
        Check.putAll(x, Check.SOFT, 4, 0, 1);
        Check.age(x, 5, 2);
        for (int i = 0; i < 9; i++) {
            x.remove(Check.SOFT, 5);
        }
        x.remove(Check.SOFT, 1);
        CHECK.same("TIME", x.count(3), 4);
        x.collect(2);
        CHECK.same("an entry 3 old", Check.row(x, Check.SOFT), "0=4");
        HoldMaps y = Check.withNumbers(6);
        Check.putAll(y, Check.LATEST, 4, 0, 1, 2);
        y.remove(Check.LATEST, 1);
        CHECK.same("the rest of LATEST", Check.keys(y, Check.LATEST), "0 2");
    }

    private static void noSuchMap() {
        HoldMaps x = Check.withNumbers(2);
        for (int map : Check.outside(Check.MAPS)) {
            CHECK.badArgument("map " + map, () -> x.remove(map, 0));
        }
    }

    private static void noSuchObject() {
        for (int map = 0; map < Check.MAPS; map++) {
            HoldMaps x = Check.withNumbers(3);
            int m = map;
            for (int key : Check.outside(3)) {
                CHECK.badArgument("object " + key + ", map " + map, () -> x.remove(m, key));
            }
            x.collect(0);
            CHECK.badArgument("a collected one, map " + map, () -> x.remove(m, 2));
        }
    }

    private static void placesKeyIsNotAsSaid() {
        HoldMaps x = Check.with(7, 8, 99, 0, 15, 16);
        for (int key : new int[] {1, 2, 4, 5}) {
            CHECK.badArgument("a key's value " + x.value(key), () -> x.remove(Check.PLACES, key));
            for (int map : new int[] {Check.WEAK, Check.SOFT, Check.IDENTITY, Check.LATEST}) {
                CHECK.same("map " + map + " takes it", x.remove(map, key), Check.NONE);
            }
        }
        CHECK.same("7 and 0", x.remove(Check.PLACES, 0) + x.remove(Check.PLACES, 3), -2);
    }
}
