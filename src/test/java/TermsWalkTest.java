/** The sentences under A WALK, with CHANGED and BROKEN. */
public final class TermsWalkTest {
    private static final Check CHECK = new Check();

    public static void main(String[] args) {
        CHECK.sentence("A WALK goes along a map's row, as it is", TermsWalkTest::asItIs);
        CHECK.sentence("A map is CHANGED when an entry comes", TermsWalkTest::entryComes);
        CHECK.sentence("A map is CHANGED when an entry goes", TermsWalkTest::entryGoes);
        CHECK.sentence("comes or goes: not by a new value", TermsWalkTest::newValue);
        CHECK.sentence("comes or goes: not by what finds nothing", TermsWalkTest::nothingFound);
        CHECK.sentence("comes or goes: not in another map", TermsWalkTest::anotherMap);
        CHECK.sentence("also in collecting", TermsWalkTest::inCollecting);
        CHECK.sentence("also in collecting: not when none goes", TermsWalkTest::noneGoesInCollecting);
        CHECK.sentence("or by doubling", TermsWalkTest::byDoubling);
        CHECK.sentence("for LATEST also when get moves one that was not the last", TermsWalkTest::getMoves);
        CHECK.sentence("for LATEST also when put moves one that was not the last", TermsWalkTest::putMoves);
        CHECK.sentence("for LATEST: not when it was the last", TermsWalkTest::wasTheLast);
        CHECK.sentence("for LATEST: not for the others", TermsWalkTest::notForTheOthers);
        CHECK.sentence("LATEST: a new one makes more, the first one goes", TermsWalkTest::seventh);
        CHECK.sentence("changed since the walk began", TermsWalkTest::sinceTheWalkBegan);
        CHECK.sentence("is BROKEN", TermsWalkTest::staysBroken);
        CHECK.end();
    }

    /** Keys 0, 1 and 2 with the value 7, in rows that begin with 0, and a walk of each map that has made one step. */
    private static HoldMaps walking() {
        HoldMaps x = Check.withNumbers(8);
        for (int map = 0; map < Check.MAPS; map++) {
            Check.putAll(x, map, 7, 0, 1, 2);
            x.walk(map);
            CHECK.same("the first step of map " + map, x.step(map), 0);
        }
        return x;
    }

    private static void goesOn(String what, HoldMaps x, int map) {
        CHECK.same(what + ", map " + map, Check.answer(() -> x.step(map)), "1");
    }

    private static void isBroken(String what, HoldMaps x, int map) {
        CHECK.badState(what + ", map " + map, () -> x.step(map));
    }

    private static void asItIs() {
        for (int map = 0; map < Check.MAPS; map++) {
            HoldMaps x = Check.withNumbers(6);
            Check.putAll(x, map, 5, 3, 0, 2, 4, 1);
            x.remove(map, 2);
            x.walk(map);
            CHECK.same("map " + map, Check.steps(x, map), Check.keys(x, map) + " NoSuchElementException");
        }
    }

    private static void entryComes() {
        for (int map = 0; map < Check.MAPS; map++) {
            HoldMaps x = walking();
            x.put(map, 5, 7);
            isBroken("one came", x, map);
            HoldMaps y = Check.withNumbers(2);
            y.walk(map);
            y.put(map, 0, 1);
            isBroken("one came where none was", y, map);
        }
    }

    private static void entryGoes() {
        for (int map = 0; map < Check.MAPS; map++) {
            for (int key = 0; key < 3; key++) {
                HoldMaps x = walking();
                x.remove(map, key);
                isBroken("key " + key + " went", x, map);
            }
            HoldMaps y = Check.withNumbers(2);
            y.put(map, 0, 1);
            y.walk(map);
            y.remove(map, 0);
            isBroken("the only one went", y, map);
        }
    }

    private static void newValue() {
        for (int map = 0; map < Check.MAPS; map++) {
            HoldMaps x = walking();
            x.put(map, 2, 6);
            goesOn("the last key has a new value", x, map);
            CHECK.same("and so on, map " + map, Check.steps(x, map), "2 NoSuchElementException");
            if (map != Check.LATEST) {
                HoldMaps y = walking();
                y.put(map, 0, 6);
                y.put(map, 1, 6);
                goesOn("other keys have new values", y, map);
            }
        }
    }

    private static void nothingFound() {
        for (int map = 0; map < Check.MAPS; map++) {
            HoldMaps x = walking();
            x.get(map, 5);
            x.remove(map, 5);
            x.size(map);
            x.entry(map, 2, 0);
            goesOn("got, removed and asked", x, map);
        }
    }

    private static void anotherMap() {
        for (int map = 0; map < Check.MAPS; map++) {
            HoldMaps x = walking();
            for (int other = 0; other < Check.MAPS; other++) {
                if (other != map) {
                    x.put(other, 5, 7);
                    x.remove(other, 0);
                    isBroken("changed", x, other);
                }
            }
            goesOn("all others were changed", x, map);
        }
    }

    /** All entries of WEAK and SOFT may go in collecting; the other maps hold what they have. */
    private static void inCollecting() {
        HoldMaps x = Check.withNumbers(8);
        Check.putAll(x, Check.WEAK, 7, 3, 4);
        x.root(3, true);
        x.walk(Check.WEAK);
        x.collect(0);
        CHECK.same("one of two went", x.size(Check.WEAK), 1);
        isBroken("collecting", x, Check.WEAK);

        HoldMaps y = Check.withNumbers(8);
        y.put(Check.SOFT, 0, 1);
        y.put(Check.SOFT, 2, 2);
        y.walk(Check.SOFT);
        y.collect(3);
        CHECK.same("one of two went", y.size(Check.SOFT), 1);
        isBroken("collecting", y, Check.SOFT);
    }

    private static void noneGoesInCollecting() {
        HoldMaps x = walking();
        Check.rootAll(x, 0, 1, 2);
        CHECK.same("four objects go", x.collect(3), 4);
        for (int map = 0; map < Check.MAPS; map++) {
            goesOn("no entry went", x, map);
        }
        HoldMaps y = Check.withNumbers(8);
        for (int map = 0; map < Check.MAPS; map++) {
            Check.putAll(y, map, 6, map, 5);
            y.walk(map);
        }
        y.collect(0);
        CHECK.same("sizes", y.size(0) + " " + y.size(1) + " " + y.size(2) + " " + y.size(3) + " " + y.size(4),
                "1 2 2 2 2");
        isBroken("one of WEAK went", y, Check.WEAK);
        CHECK.same("others go on", y.step(Check.SOFT) + " " + y.step(Check.IDENTITY) + " " + y.step(Check.PLACES) + " "
                + y.step(Check.LATEST), "1 5 3 4");
    }

    /** Doubling comes with a new entry alone, and so does the change. */
    private static void byDoubling() {
        int[] entries = {3, 6, 12};
        for (int before : entries) {
            HoldMaps x = Check.withNumbers(16);
            for (int key = 0; key < before; key++) {
                x.put(Check.WEAK, key, 15);
            }
            int buckets = x.count(2);
            x.walk(Check.WEAK);
            x.put(Check.WEAK, 0, 14);
            CHECK.same("an old key with " + before + " entries", x.step(Check.WEAK), 0);
            x.put(Check.WEAK, before, 15);
            CHECK.same("doubled", x.count(2), 2 * buckets);
            isBroken("doubled", x, Check.WEAK);
        }
    }

    private static void getMoves() {
        for (int key = 0; key < 2; key++) {
            HoldMaps x = walking();
            x.get(Check.LATEST, key);
            isBroken("got " + key, x, Check.LATEST);
        }
    }

    private static void putMoves() {
        for (int key = 0; key < 2; key++) {
            HoldMaps x = walking();
            x.put(Check.LATEST, key, 7);
            isBroken("put " + key, x, Check.LATEST);
        }
    }

    private static void wasTheLast() {
        HoldMaps x = walking();
        x.get(Check.LATEST, 2);
        goesOn("got the last", x, Check.LATEST);
        HoldMaps y = walking();
        y.put(Check.LATEST, 2, 6);
        goesOn("put the last", y, Check.LATEST);
        HoldMaps z = Check.withNumbers(2);
        z.put(Check.LATEST, 0, 1);
        z.walk(Check.LATEST);
        z.get(Check.LATEST, 0);
        z.put(Check.LATEST, 0, 0);
        CHECK.same("the only one", z.step(Check.LATEST), 0);
    }

    private static void notForTheOthers() {
        for (int map = 0; map < Check.LATEST; map++) {
            for (int key = 0; key < 3; key++) {
                HoldMaps x = walking();
                x.get(map, key);
                x.put(map, key, 7);
                goesOn("got and put " + key, x, map);
            }
        }
    }

    private static void seventh() {
        HoldMaps x = Check.withNumbers(8);
        Check.putAll(x, Check.LATEST, 7, 0, 1, 2, 3, 4, 5);
        x.walk(Check.LATEST);
        x.put(Check.LATEST, 6, 7);
        CHECK.same("as many as before", x.size(Check.LATEST), 6);
        isBroken("one came, one went", x, Check.LATEST);
    }

    private static void sinceTheWalkBegan() {
        for (int map = 0; map < Check.MAPS; map++) {
            HoldMaps x = Check.withNumbers(4);
            Check.putAll(x, map, 3, 2, 0, 1);
            x.remove(map, 2);
            x.walk(map);
            CHECK.same("changed before, map " + map, Check.steps(x, map), "0 1 NoSuchElementException");
            x.walk(map);
            x.put(map, 2, 3);
            isBroken("changed before the first step", x, map);
        }
    }

    /** A change that is undone is a change: the row is what it was, the walk is not. */
    private static void staysBroken() {
        for (int map = 0; map < Check.MAPS; map++) {
            HoldMaps x = walking();
            x.put(map, 5, 7);
            x.remove(map, 5);
            isBroken("one came and went", x, map);
            isBroken("and again", x, map);
            x.walk(map);
            x.step(map);
            goesOn("a new walk", x, map);
        }
    }
}
