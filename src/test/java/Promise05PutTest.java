/** How entries come, and how they lie then. */
public final class Promise05PutTest {
    private static final Check CHECK = new Check();

    public static void main(String[] args) {
        wrongArguments();
        sameKeys();
        weakBuckets();
        softOrder();
        identitySlots();
        identityIsFull();
        placesByNumber();
        latestKeepsSix();
        CHECK.end();
    }

    private static void wrongArguments() {
        HoldMaps x = Check.withNumbers(9);
        int[] noMaps = {-1, 5, Integer.MIN_VALUE, Integer.MAX_VALUE};
        for (int map : noMaps) {
            CHECK.badArgument("no map " + map, x, () -> x.put(map, 0, 0));
        }
        int[] noObjects = {-1, -2, 9, 31, 32, Integer.MIN_VALUE, Integer.MAX_VALUE};
        for (int object : noObjects) {
            for (int map = 0; map < 5; map++) {
                int m = map;
                CHECK.badArgument("no key " + object, x, () -> x.put(m, object, 0));
                CHECK.badArgument("no value " + object, x, () -> x.put(m, 0, object));
            }
        }
        CHECK.badArgument("PLACES has no 8", x, () -> x.put(Check.PLACES, 8, 0));
        CHECK.same("PLACES has a 7", x.put(Check.PLACES, 7, 0), Check.NONE);
        CHECK.same("a value may be above 7", x.put(Check.PLACES, 7, 8), 0);
    }

    /** Objects 0 and 1 are equal; an entry that is there leaves its key, and gets the new value. */
    private static void sameKeys() {
        for (int map = 0; map < 5; map++) {
            HoldMaps x = Check.with(5, 5, 6);
            CHECK.same("first put", x.put(map, 0, 2), Check.NONE);
            CHECK.same("put again", x.put(map, 0, 1), 2);
            boolean one = map == Check.IDENTITY;
            CHECK.same("an equal key in map " + map, x.put(map, 1, 0), one ? Check.NONE : 1);
            CHECK.same("size of map " + map, x.size(map), one ? 2 : 1);
            String row = map == Check.PLACES ? "5=0" : "0=0";
            CHECK.same("row of map " + map, Check.row(x, map), one ? "0=1 1=0" : row);
            CHECK.same("the other maps", x.size(0) + x.size(1) + x.size(2) + x.size(3) + x.size(4), one ? 2 : 1);
        }
    }

    private static void weakBuckets() {
        HoldMaps x = Check.with(0, 4, 8, 3, 16, 17, 33);
        Check.putAll(x, Check.WEAK, 0, 0, 1, 2);
        CHECK.same("last in a bucket first", Check.keys(x, Check.WEAK) + " of " + x.count(2), "2 1 0 of 4");
        x.put(Check.WEAK, 1, 1);
        CHECK.same("an old key does not move", Check.row(x, Check.WEAK) + " of " + x.count(2), "2=0 1=1 0=0 of 4");
        x.put(Check.WEAK, 3, 0);
        CHECK.same("doubled at four", Check.keys(x, Check.WEAK) + " of " + x.count(2), "0 2 3 1 of 8");
        Check.putAll(x, Check.WEAK, 0, 4, 5);
        CHECK.same("not doubled at six", Check.keys(x, Check.WEAK) + " of " + x.count(2), "5 0 2 4 3 1 of 8");
        x.put(Check.WEAK, 6, 0);
        CHECK.same("doubled at seven", Check.keys(x, Check.WEAK) + " of " + x.count(2), "0 5 4 3 6 1 2 of 16");

        HoldMaps y = Check.withNumbers(32);
        StringBuilder buckets = new StringBuilder();
        for (int key = 0; key < 32; key++) {
            y.put(Check.WEAK, key, key);
            buckets.append(y.count(2)).append(' ');
        }
        String due = "4 ".repeat(3) + "8 ".repeat(3) + "16 ".repeat(6) + "32 ".repeat(20);
        CHECK.same("doubled up to 32", buckets.toString(), due);
    }

    private static void softOrder() {
        HoldMaps x = Check.withNumbers(6);
        Check.putAll(x, Check.SOFT, 0, 3, 1, 5, 2);
        x.put(Check.SOFT, 1, 4);
        CHECK.same("as they came", Check.row(x, Check.SOFT), "3=0 1=4 5=0 2=0");
        CHECK.same("puts are counted", x.count(3), 5);
    }

    /** First slots: 0, 1, 2, .. have 0, 7, 14, 5, 12, 3, 10, 1, 8, 15, 6, 13, 4, 11, 2, 9, and so on again. */
    private static void identitySlots() {
        HoldMaps x = Check.withNumbers(32);
        Check.putAll(x, Check.IDENTITY, 0, 9, 2, 7, 0);
        CHECK.same("by slots", Check.keys(x, Check.IDENTITY), "0 7 2 9");
        x.put(Check.IDENTITY, 25, 1);
        CHECK.same("behind 15 comes 0, then the first free one", Check.keys(x, Check.IDENTITY), "0 7 25 2 9");
        x.put(Check.IDENTITY, 18, 1);
        CHECK.same("and 14 goes round too", Check.keys(x, Check.IDENTITY), "0 7 25 18 2 9");
    }

    private static void identityIsFull() {
        HoldMaps x = Check.withNumbers(14);
        Check.putAll(x, Check.IDENTITY, 13, 0, 1, 2, 3, 4, 5, 6, 7, 8, 9, 10);
        CHECK.same("a 12th", x.put(Check.IDENTITY, 11, 13), Check.NONE);
        CHECK.badState("a 13th", x, () -> x.put(Check.IDENTITY, 12, 0));
        CHECK.badArgument("no value counts before a full map", x, () -> x.put(Check.IDENTITY, 12, 14));
        CHECK.same("a key that is there", x.put(Check.IDENTITY, 11, 1), 13);
        x.remove(Check.IDENTITY, 0);
        CHECK.same("room again", x.put(Check.IDENTITY, 12, 0), Check.NONE);
        CHECK.same("twelve", x.size(Check.IDENTITY), 12);
    }

    private static void placesByNumber() {
        HoldMaps x = Check.with(7, 0, 3, 3, 5, 99);
        Check.putAll(x, Check.PLACES, 5, 0, 2, 1, 4);
        CHECK.same("an equal key", x.put(Check.PLACES, 3, 0), 5);
        CHECK.same("by number", Check.row(x, Check.PLACES), "0=5 3=0 5=5 7=5");
    }

    private static void latestKeepsSix() {
        HoldMaps x = Check.with(10, 11, 12, 13, 14, 15, 16, 17, 11);
        Check.putAll(x, Check.LATEST, 0, 0, 1, 2, 3, 4, 5);
        CHECK.same("six", Check.keys(x, Check.LATEST), "0 1 2 3 4 5");
        CHECK.same("an equal key is used", x.put(Check.LATEST, 8, 7), 0);
        CHECK.same("and keeps its key", Check.row(x, Check.LATEST), "0=0 2=0 3=0 4=0 5=0 1=7");
        x.put(Check.LATEST, 6, 0);
        CHECK.same("the first one goes", Check.keys(x, Check.LATEST), "2 3 4 5 1 6");
        x.put(Check.LATEST, 2, 0);
        x.put(Check.LATEST, 7, 0);
        CHECK.same("what was used stays", Check.keys(x, Check.LATEST), "4 5 1 6 2 7");
        CHECK.same("others are not counted in TIME", x.count(3), 0);
    }
}
