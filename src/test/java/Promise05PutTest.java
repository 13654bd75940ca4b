/** How put answers; how the entries lie then is tested with the terms. */
public final class Promise05PutTest {
    private static final Check CHECK = new Check();

    public static void main(String[] args) {
        CHECK.sentence("Puts an entry", Promise05PutTest::putsAnEntry);
        CHECK.sentence("the value that the key had, or NONE", Promise05PutTest::valueThatTheKeyHad);
        CHECK.sentence("no such map", Promise05PutTest::noSuchMap);
        CHECK.sentence("no such key", Promise05PutTest::noSuchKey);
        CHECK.sentence("no such value", Promise05PutTest::noSuchValue);
        CHECK.sentence("PLACES' key is not as said", Promise05PutTest::placesKeyIsNotAsSaid);
        CHECK.sentence("IDENTITY has 12 entries", Promise05PutTest::identityHas12);
        CHECK.sentence("none with this key", Promise05PutTest::noneWithThisKey);
        CHECK.sentence("IllegalArgumentException, IllegalStateException", Promise05PutTest::bothAreWrong);
        CHECK.sentence("IllegalStateException: IDENTITY alone", Promise05PutTest::othersAreNeverFull);
        CHECK.end();
    }

    private static void putsAnEntry() {
        for (int map = 0; map < Check.MAPS; map++) {
            HoldMaps x = Check.withNumbers(32);
            x.put(map, 7, 31);
            x.put(map, 0, 0);
            String first = map == Check.WEAK || map == Check.IDENTITY || map == Check.PLACES ? "0=0 7=31" : "7=31 0=0";
            CHECK.same("map " + map, Check.row(x, map), first);
            for (int other = 0; other < Check.MAPS; other++) {
                CHECK.same("map " + other + " after put into " + map, x.size(other), other == map ? 2 : 0);
            }
        }
    }

    private static void valueThatTheKeyHad() {
        for (int map = 0; map < Check.MAPS; map++) {
            HoldMaps x = Check.withNumbers(32);
            CHECK.same("an empty map " + map, x.put(map, 0, 0), Check.NONE);
            CHECK.same("another key, map " + map, x.put(map, 1, 31), Check.NONE);
            CHECK.same("the lowest value, map " + map, x.put(map, 0, 31), 0);
            CHECK.same("the highest value, map " + map, x.put(map, 0, 31), 31);
            CHECK.same("its value, not another key's, map " + map, x.put(map, 1, 5), 31);
            x.remove(map, 0);
            CHECK.same("a key that went, map " + map, x.put(map, 0, 4), Check.NONE);
        }
    }

    private static void noSuchMap() {
        HoldMaps x = Check.withNumbers(2);
        for (int map : Check.outside(Check.MAPS)) {
            CHECK.badArgument("map " + map, () -> x.put(map, 0, 1));
        }
    }

    private static void noSuchKey() {
        for (int map = 0; map < Check.MAPS; map++) {
            HoldMaps x = Check.withNumbers(3);
            int m = map;
            for (int key : Check.outside(3)) {
                CHECK.badArgument("key " + key + ", map " + map, () -> x.put(m, key, 1));
            }
            x.root(1, true);
            x.collect(0);
            CHECK.badArgument("a collected key, map " + map, () -> x.put(m, 2, 1));
            CHECK.same("no entry came, map " + map, x.size(map), 0);
        }
    }

    private static void noSuchValue() {
        for (int map = 0; map < Check.MAPS; map++) {
            HoldMaps x = Check.withNumbers(3);
            int m = map;
            x.root(0, true);
            for (int value : Check.outside(3)) {
                CHECK.badArgument("value " + value + ", map " + map, () -> x.put(m, 0, value));
            }
            x.put(map, 0, 0);
            CHECK.badArgument("no value for a key that is there, map " + map, () -> x.put(m, 0, Check.NONE));
            x.collect(0);
            CHECK.badArgument("a collected value, map " + map, () -> x.put(m, 0, 2));
            CHECK.same("it keeps its value, map " + map, Check.row(x, map), "0=0");
        }
    }

    private static void placesKeyIsNotAsSaid() {
        HoldMaps x = Check.with(7, 8, 99, 0, 15, 16);
        for (int key : new int[] {1, 2, 4, 5}) {
            CHECK.badArgument("a key's value " + x.value(key), () -> x.put(Check.PLACES, key, 0));
            for (int map : new int[] {Check.WEAK, Check.SOFT, Check.IDENTITY, Check.LATEST}) {
                CHECK.same("map " + map + " takes it", x.put(map, key, 0), Check.NONE);
            }
        }
        CHECK.same("7", x.put(Check.PLACES, 0, 2), Check.NONE);
        CHECK.same("0", x.put(Check.PLACES, 3, 1), Check.NONE);
        CHECK.same("values of entries may be above 7", Check.row(x, Check.PLACES), "0=1 7=2");
    }

    private static HoldMaps identityWith12() {
        HoldMaps x = Check.withNumbers(16);
        Check.putAll(x, Check.IDENTITY, 15, 0, 1, 2, 3, 4, 5, 6, 7, 8, 9, 10);
        CHECK.same("a 12th", x.put(Check.IDENTITY, 11, 15), Check.NONE);
        return x;
    }

    private static void identityHas12() {
        HoldMaps x = identityWith12();
        CHECK.badState("a 13th", () -> x.put(Check.IDENTITY, 12, 0));
        CHECK.badState("another 13th", () -> x.put(Check.IDENTITY, 15, 15));
        CHECK.same("there are 12", x.size(Check.IDENTITY), 12);
        x.remove(Check.IDENTITY, 0);
        CHECK.same("room again", x.put(Check.IDENTITY, 12, 0), Check.NONE);
        CHECK.badState("and no more room", () -> x.put(Check.IDENTITY, 0, 0));
        CHECK.same("other maps have room", x.put(Check.WEAK, 13, 0) + x.put(Check.SOFT, 13, 0)
                + x.put(Check.LATEST, 13, 0), -3);
    }

    private static void noneWithThisKey() {
        HoldMaps x = identityWith12();
        for (int key = 0; key < 12; key++) {
            CHECK.same("key " + key, x.put(Check.IDENTITY, key, key), 15);
        }
        HoldMaps y = Check.with(5, 5, 5, 5, 5, 5, 5, 5, 5, 5, 5, 5, 5);
        Check.putAll(y, Check.IDENTITY, 0, 0, 1, 2, 3, 4, 5, 6, 7, 8, 9, 10, 11);
        CHECK.badState("an equal object is not this key", () -> y.put(Check.IDENTITY, 12, 0));
    }

    private static void bothAreWrong() {
        HoldMaps x = identityWith12();
        CHECK.badArgument("no such value", () -> x.put(Check.IDENTITY, 12, 16));
        CHECK.badArgument("no such key", () -> x.put(Check.IDENTITY, 16, 0));
    }

    private static void othersAreNeverFull() {
        HoldMaps x = Check.withNumbers(32);
        for (int key = 0; key < 32; key++) {
            CHECK.same("a key into WEAK, SOFT and LATEST", x.put(Check.WEAK, key, 0) + x.put(Check.SOFT, key, 0)
                    + x.put(Check.LATEST, key, 0), -3);
        }
        for (int key = 0; key < 8; key++) {
            CHECK.same("a key into PLACES", x.put(Check.PLACES, key, 0), Check.NONE);
        }
        CHECK.same("their sizes", x.size(Check.WEAK) + " " + x.size(Check.SOFT) + " " + x.size(Check.PLACES) + " "
                + x.size(Check.LATEST), "32 32 8 6");
    }
}
