public final class Promise09EntryTest {
    private static final Check CHECK = new Check();

    public static void main(String[] args) {
        CHECK.sentence("The k-th entry (from 0) of a map's row", Promise09EntryTest::kthEntry);
        CHECK.sentence("what = 0 its key, 1 its value", Promise09EntryTest::keyAndValue);
        CHECK.sentence("there is none: an empty map", Promise09EntryTest::emptyMap);
        CHECK.sentence("there is none: k too small or too large", Promise09EntryTest::noSuchEntry);
        CHECK.sentence("no such map", Promise09EntryTest::noSuchMap);
        CHECK.sentence("no such what", Promise09EntryTest::noSuchWhat);
        CHECK.sentence("to look at an entry is no use of it", Promise09EntryTest::lookingIsNoUse);
        CHECK.end();
    }

    /** Objects with the values 7 and 3 come as keys in this order. */
    private static HoldMaps twoEntries(int map) {
        HoldMaps x = Check.with(7, 3, 50, 60);
        x.put(map, 1, 2);
        x.put(map, 0, 3);
        return x;
    }

    private static void kthEntry() {
        String[] due = {"0 1", "1 0", "0 1", "3 7", "1 0"};
        for (int map = 0; map < Check.MAPS; map++) {
            HoldMaps x = twoEntries(map);
            CHECK.same("map " + map, x.entry(map, 0, 0) + " " + x.entry(map, 1, 0), due[map]);
        }
    }

    private static void keyAndValue() {
        String[] due = {"0=3 1=2", "1=2 0=3", "0=3 1=2", "3=2 7=3", "1=2 0=3"};
        for (int map = 0; map < Check.MAPS; map++) {
            CHECK.same("map " + map, Check.row(twoEntries(map), map), due[map]);
        }
    }

    private static void emptyMap() {
        for (int map = 0; map < Check.MAPS; map++) {
            HoldMaps x = twoEntries((map + 1) % Check.MAPS);
            int m = map;
            CHECK.noElement("a key in map " + map, () -> x.entry(m, 0, 0));
            CHECK.noElement("a value in map " + map, () -> x.entry(m, 0, 1));
            x.put(map, 0, 0);
            x.remove(map, 0);
            CHECK.noElement("none is left in map " + map, () -> x.entry(m, 0, 0));
        }
    }

    private static void noSuchEntry() {
        int[] most = {32, 32, 12, 8, 6};
        for (int map = 0; map < Check.MAPS; map++) {
            HoldMaps x = twoEntries(map);
            HoldMaps full = Check.withNumbers(32);
            int m = map;
            for (int k : Check.outside(2)) {
                CHECK.noElement("key " + k + " of 2 in map " + map, () -> x.entry(m, k, 0));
                CHECK.noElement("value " + k + " of 2 in map " + map, () -> x.entry(m, k, 1));
            }
            for (int key = 0; key < most[map]; key++) {
                full.put(map, key, 31);
            }
            CHECK.same("the last one in map " + map, full.entry(map, most[map] - 1, 1), 31);
            for (int k : Check.outside(most[map])) {
                CHECK.noElement("key " + k + " of the most in map " + map, () -> full.entry(m, k, 0));
            }
        }
    }

    private static void noSuchMap() {
        HoldMaps x = Check.withNumbers(3);
        for (int map = 0; map < Check.MAPS; map++) {
            x.put(map, 0, 0);
        }
        for (int map : Check.outside(Check.MAPS)) {
            CHECK.noElement("a key in map " + map, () -> x.entry(map, 0, 0));
            CHECK.noElement("a value in map " + map, () -> x.entry(map, 0, 1));
        }
    }

    private static void noSuchWhat() {
        for (int map = 0; map < Check.MAPS; map++) {
            HoldMaps x = twoEntries(map);
            int m = map;
            for (int what : Check.outside(2)) {
                CHECK.noElement("what = " + what + " in map " + map, () -> x.entry(m, 0, what));
            }
        }
    }

    private static void lookingIsNoUse() {
        HoldMaps x = twoEntries(Check.LATEST);
        x.entry(Check.LATEST, 0, 1);
        x.entry(Check.LATEST, 0, 0);
        CHECK.same("the row of LATEST", Check.row(x, Check.LATEST), "1=2 0=3");
        HoldMaps y = twoEntries(Check.SOFT);
        Check.age(y, 2, 3);
        y.entry(Check.SOFT, 0, 1);
        CHECK.same("TIME of SOFT", y.count(3), 5);
        y.collect(2);
        CHECK.same("what was looked at is old", Check.row(y, Check.SOFT), "0=3");
    }
}
