/** What step answers; what breaks a walk is tested with the terms. */
public final class Promise11StepTest {
    private static final Check CHECK = new Check();

    public static void main(String[] args) {
        CHECK.sentence("The next entry's key", Promise11StepTest::nextKey);
        CHECK.sentence("the next entry's key: the most entries", Promise11StepTest::mostEntries);
        CHECK.sentence("no such map", Promise11StepTest::noSuchMap);
        CHECK.sentence("it has no walk", Promise11StepTest::noWalk);
        CHECK.sentence("its walk is BROKEN", Promise11StepTest::isBroken);
        CHECK.sentence("it is at its end", Promise11StepTest::isAtItsEnd);
        CHECK.sentence("it is at its end at once, for there is no entry", Promise11StepTest::isAtItsEndAtOnce);
        CHECK.sentence("IllegalStateException, NoSuchElementException", Promise11StepTest::brokenAtItsEnd);
        CHECK.end();
    }

    private static void nextKey() {
        String[] due = {"3 4 1 2 0", "2 1 0 3 4", "0 3 1 4 2", "0 1 2 6 7", "2 1 0 3 4"};
        for (int map = 0; map < Check.MAPS; map++) {
            HoldMaps x = Check.with(7, 2, 6, 0, 1, 50);
            Check.putAll(x, map, 5, 2, 1, 0, 3, 4);
            x.walk(map);
            String row = due[map];
            CHECK.same("map " + map, Check.steps(x, map), row + " NoSuchElementException");
            CHECK.same("the row of map " + map, Check.keys(x, map), row);
        }
    }

    private static void mostEntries() {
        int[] most = {32, 32, 12, 8, 6};
        for (int map = 0; map < Check.MAPS; map++) {
            HoldMaps x = Check.withNumbers(32);
            for (int key = 0; key < most[map]; key++) {
                x.put(map, key, 31);
            }
            x.walk(map);
            for (int k = 0; k < most[map]; k++) {
                CHECK.same("step " + k + " of map " + map, x.step(map), x.entry(map, k, 0));
            }
            int m = map;
            CHECK.noElement("and no more of map " + map, () -> x.step(m));
        }
    }

    private static void noSuchMap() {
        HoldMaps x = Check.withNumbers(2);
        for (int map = 0; map < Check.MAPS; map++) {
            x.put(map, 0, 1);
            x.walk(map);
        }
        for (int map : Check.outside(Check.MAPS)) {
            CHECK.badArgument("map " + map, () -> x.step(map));
        }
    }

    private static void noWalk() {
        for (int map = 0; map < Check.MAPS; map++) {
            HoldMaps x = Check.withNumbers(3);
            int m = map;
            CHECK.badArgument("an empty map " + map, () -> x.step(m));
            for (int other = 0; other < Check.MAPS; other++) {
                if (other != map) {
                    x.walk(other);
                }
            }
            CHECK.badArgument("walks of all maps but " + map, () -> x.step(m));
            x.put(map, 0, 1);
            x.remove(map, 0);
            CHECK.badArgument("what has no walk is not broken, map " + map, () -> x.step(m));
        }
    }

    private static void isBroken() {
        for (int map = 0; map < Check.MAPS; map++) {
            HoldMaps x = Check.withNumbers(4);
            int m = map;
            Check.putAll(x, map, 3, 0, 1);
            x.walk(map);
            x.step(map);
            x.put(map, 2, 3);
            CHECK.badState("map " + map, () -> x.step(m));
            CHECK.badState("and again, map " + map, () -> x.step(m));
            x.remove(map, 2);
            CHECK.badState("it does not mend, map " + map, () -> x.step(m));
        }
    }

    private static void isAtItsEnd() {
        for (int map = 0; map < Check.MAPS; map++) {
            HoldMaps x = Check.withNumbers(4);
            int m = map;
            Check.putAll(x, map, 3, 0, 1);
            x.walk(map);
            CHECK.same("two keys, map " + map, x.step(map) + " " + x.step(map), "0 1");
            CHECK.noElement("the end, map " + map, () -> x.step(m));
            CHECK.noElement("it stays there, map " + map, () -> x.step(m));
        }
    }

    private static void isAtItsEndAtOnce() {
        for (int map = 0; map < Check.MAPS; map++) {
            HoldMaps x = Check.withNumbers(2);
            int m = map;
            x.put(map, 0, 1);
            x.remove(map, 0);
            x.walk(map);
            CHECK.noElement("map " + map, () -> x.step(m));
            CHECK.noElement("and again, map " + map, () -> x.step(m));
        }
    }

    private static void brokenAtItsEnd() {
        for (int map = 0; map < Check.MAPS; map++) {
            HoldMaps x = Check.withNumbers(4);
            int m = map;
            Check.putAll(x, map, 3, 0, 1);
            x.walk(map);
            x.step(map);
            x.step(map);
            x.remove(map, 0);
            CHECK.badState("one went, map " + map, () -> x.step(m));
            x.remove(map, 1);
            CHECK.badState("all went, map " + map, () -> x.step(m));
        }
    }
}
