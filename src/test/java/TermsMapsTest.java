/** The sentences under MAPS. */
public final class TermsMapsTest {
    private static final Check CHECK = new Check();

    public static void main(String[] args) {
        CHECK.sentence("MAPS: 0 WEAK, 1 SOFT, 2 IDENTITY, 3 PLACES, 4 LATEST", TermsMapsTest::kinds);
        CHECK.sentence("a key (an object; for PLACES a number 0 .. 7)", TermsMapsTest::keys);
        CHECK.sentence("and a value (an object)", TermsMapsTest::values);
        CHECK.sentence("the same for WEAK, SOFT and LATEST when they are EQUAL", TermsMapsTest::equalKeys);
        CHECK.sentence("for IDENTITY when they are one object", TermsMapsTest::oneObject);
        CHECK.sentence("a key given to PLACES stands for its VALUE", TermsMapsTest::standsForItsValue);
        CHECK.sentence("which must be 0 .. 7", TermsMapsTest::mustBeAPlace);
        CHECK.sentence("one with the same key leaves that its key", TermsMapsTest::leavesItsKey);
        CHECK.sentence("and gives it the new value", TermsMapsTest::givesTheNewValue);
        CHECK.end();
    }

    private static void kinds() {
        HoldMaps x = Check.withNumbers(16);
        for (int map = 0; map < Check.MAPS; map++) {
            int before = x.count(3);
            Check.putAll(x, map, 0, 0, 1, 2, 3, 4, 5, 6);
            CHECK.same("only WEAK has buckets, and doubles them, " + map, x.count(2), 16);
            CHECK.same("only SOFT has a TIME, " + map, x.count(3) - before, map == 1 ? 7 : 0);
            CHECK.same("only LATEST keeps six, " + map, x.size(map), map == 4 ? 6 : 7);
            int m = map;
            String due = map == 3 ? "IllegalArgumentException" : "-1";
            CHECK.same("only PLACES refuses an 8, " + map, Check.answer(() -> x.put(m, 8, 0)), due);
        }
        Check.putAll(x, Check.IDENTITY, 0, 9, 10, 11, 12);
        CHECK.badState("only IDENTITY is full with 12", () -> x.put(2, 13, 0));
        CHECK.same("no map behind and none before", x.size(5) + " " + x.size(-1), "-1 -1");
    }

    private static void keys() {
        for (int map = 0; map < Check.MAPS; map++) {
            HoldMaps x = Check.with(50, 7, 0);
            x.put(map, 1, 0);
            CHECK.same("the highest place, map " + map, x.entry(map, 0, 0), map == Check.PLACES ? 7 : 1);
            x.remove(map, 1);
            x.put(map, 2, 0);
            CHECK.same("the lowest place, map " + map, x.entry(map, 0, 0), map == Check.PLACES ? 0 : 2);
        }
    }

    private static void values() {
        for (int map = 0; map < Check.MAPS; map++) {
            HoldMaps x = Check.with(7, 99, 7);
            x.put(map, 0, 1);
            CHECK.same("an object, not its VALUE, map " + map, x.entry(map, 0, 1), 1);
            x.put(map, 0, 0);
            CHECK.same("the key itself, map " + map, x.entry(map, 0, 1), 0);
            x.put(map, 0, 2);
            CHECK.same("one that is equal to it, map " + map, x.entry(map, 0, 1), 2);
        }
    }

    /** Values that share a bucket at every number of buckets are not equal for that: 0 and 34, or 1 and 35. */
    private static void equalKeys() {
        for (int map : new int[] {Check.WEAK, Check.SOFT, Check.LATEST}) {
            HoldMaps x = Check.with(0, 0, 99, 99, 98, 34, 1, 35);
            Check.putAll(x, map, 0, 0, 2);
            CHECK.same("equal keys, map " + map, x.put(map, 1, 1) + " " + x.put(map, 3, 1), "0 0");
            CHECK.same("they are found, map " + map, x.get(map, 0) + " " + x.get(map, 2), "1 1");
            CHECK.same("others, map " + map, x.get(map, 4) + x.get(map, 5) + x.get(map, 6) + x.get(map, 7), -4);
            Check.putAll(x, map, 0, 5, 6, 7);
            CHECK.same("sizes, map " + map, x.size(map), 5);
            CHECK.same("taken away, map " + map, x.remove(map, 1) + " " + x.remove(map, 0), "1 -1");
        }
    }

    private static void oneObject() {
        HoldMaps x = Check.with(5, 5, 5);
        CHECK.same("two keys", x.put(Check.IDENTITY, 0, 2) + " " + x.put(Check.IDENTITY, 1, 1), "-1 -1");
        CHECK.same("one of them again", x.put(Check.IDENTITY, 0, 0), 2);
        CHECK.same("each has its own value", x.get(Check.IDENTITY, 0) + " " + x.get(Check.IDENTITY, 1), "0 1");
        CHECK.same("an equal one has none", x.get(Check.IDENTITY, 2), Check.NONE);
        CHECK.same("it takes none away", x.remove(Check.IDENTITY, 2), Check.NONE);
        CHECK.same("the row", Check.row(x, Check.IDENTITY), "0=0 1=1");
    }

    /** The entry outlives the object that was given as its key. */
    private static void standsForItsValue() {
        HoldMaps x = Check.with(50, 7, 7, 0, 0);
        CHECK.same("7, and 7 again", x.put(Check.PLACES, 1, 0) + " " + x.put(Check.PLACES, 2, 3), "-1 0");
        CHECK.same("0, and 0 again", x.put(Check.PLACES, 3, 3) + " " + x.put(Check.PLACES, 4, 0), "-1 3");
        CHECK.same("by any of them", x.get(Check.PLACES, 1) + " " + x.get(Check.PLACES, 3), "3 0");
        x.collect(0);
        CHECK.same("the keys given are gone", Check.living(x), "0 3");
        CHECK.same("the entries are not", Check.row(x, Check.PLACES), "0=0 7=3");
        CHECK.same("a new object with 7", x.get(Check.PLACES, x.make(7)), 3);
        CHECK.same("it takes the entry away", x.remove(Check.PLACES, 1) + " " + x.size(Check.PLACES), "3 1");
    }

    private static void mustBeAPlace() {
        for (int value = 0; value < 100; value++) {
            HoldMaps x = Check.with(value);
            String due = value <= 7 ? "-1 0 0" : ("IllegalArgumentException ".repeat(3)).trim();
            CHECK.same("value " + value, Check.answer(() -> x.put(Check.PLACES, 0, 0)) + " "
                    + Check.answer(() -> x.get(Check.PLACES, 0)) + " "
                    + Check.answer(() -> x.remove(Check.PLACES, 0)), due);
        }
    }

    /** Also that the new key is not held by the entry: it is the old one that is. */
    private static void leavesItsKey() {
        for (int map : new int[] {Check.WEAK, Check.SOFT, Check.LATEST}) {
            HoldMaps x = Check.with(5, 5, 6);
            x.put(map, 1, 2);
            x.put(map, 0, 2);
            x.get(map, 0);
            CHECK.same("map " + map, Check.row(x, map), "1=2");
            x.root(2, true);
            x.collect(0);
            String due = map == Check.WEAK ? " 2" : "1=2 1 2";
            CHECK.same("collected, map " + map, Check.row(x, map) + " " + Check.living(x), due);
        }
    }

    private static void givesTheNewValue() {
        for (int map = 0; map < Check.MAPS; map++) {
            HoldMaps x = Check.with(5, 5, 6);
            x.put(map, 0, 2);
            x.put(map, map == Check.IDENTITY ? 0 : 1, 1);
            CHECK.same("map " + map, x.size(map) + " " + x.entry(map, 0, 1) + " " + x.get(map, 0), "1 1 1");
            x.root(0, true);
            x.collect(0);
            CHECK.same("the old value is held no more, map " + map, Check.living(x), "0 1");
        }
    }
}
