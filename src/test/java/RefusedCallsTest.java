import java.util.function.Supplier;
import java.util.function.ToLongFunction;

/**
 * A call that is refused, or that only looks, changes nothing: neither entries, objects and counts, nor walks, nor
 * the uses of SOFT's entries. Each call is made on a new object; all that can be told of it must be what is told of
 * its twin, on which the call was not made. No twin sees more than 512 calls.
 */
public final class RefusedCallsTest {
    private static final Check CHECK = new Check();
    private static final String ARGUMENT = "IllegalArgumentException";
    private static final String STATE = "IllegalStateException";
    private static final String ELEMENT = "NoSuchElementException";

    /** Was collected: no object has this number. */
    private static final int GONE = 9;
    /** A root that is no key anywhere, and no number of PLACES. */
    private static final int PROBE = 12;
    private static final int OBJECTS = 18;

    private static final String RICH = tell(rich());
    private static final String FULL = tell(full());

    public static void main(String[] args) {
        CHECK.sentence("make: value is not 0 .. 99", RefusedCallsTest::makeWrongValue);
        CHECK.sentence("make: there are 32", RefusedCallsTest::makeFull);
        CHECK.sentence("refer: there is no such object or reference", RefusedCallsTest::refer);
        CHECK.sentence("root: there is no such object", RefusedCallsTest::root);
        CHECK.sentence("put: no such map, key or value, or PLACES' key is not as said", RefusedCallsTest::put);
        CHECK.sentence("put: IDENTITY has 12 entries, none with this key", RefusedCallsTest::putFull);
        CHECK.sentence("get: no such map or object, or PLACES' key is not as said", RefusedCallsTest::get);
        CHECK.sentence("remove: as with get()", RefusedCallsTest::remove);
        CHECK.sentence("remove: NONE when there is none", RefusedCallsTest::removeNone);
        CHECK.sentence("entry: there is none, or no such map or what", RefusedCallsTest::entry);
        CHECK.sentence("walk: no such map", RefusedCallsTest::walk);
        CHECK.sentence("step: no such map, or it has no walk", RefusedCallsTest::stepWrongMap);
        CHECK.sentence("step: its walk is BROKEN", RefusedCallsTest::stepBroken);
        CHECK.sentence("step: it is at its end", RefusedCallsTest::stepAtItsEnd);
        CHECK.sentence("collect: it is not 0 .. 3", RefusedCallsTest::collect);
        CHECK.sentence("size, entry, value and count only look", RefusedCallsTest::looking);
        CHECK.end();
    }

    /**
     * Entries in all maps, uses of SOFT that differ, and each kind of walk: of WEAK in its midst, of SOFT just begun,
     * of IDENTITY broken, of PLACES at its end, of LATEST none.
     */
    private static HoldMaps rich() {
        HoldMaps x = Check.with(0, 1, 2, 3, 4, 5, 6, 7, 8, 40, 41, 42, 98, 44, 45, 46, 47, 48);
        Check.rootAll(x, 0, 1, 2, 3, 4, 5, 6, 7, 8, PROBE);
        x.refer(0, 0, 10);
        x.refer(10, 1, 11);
        Check.putAll(x, Check.WEAK, 10, 1, 2, 3, 14);
        x.put(Check.SOFT, 4, 14);
        x.put(Check.SOFT, 5, 15);
        x.get(Check.SOFT, PROBE);
        x.put(Check.SOFT, 6, 16);
        x.get(Check.SOFT, 4);
        x.put(Check.SOFT, 7, 17);
        Check.putAll(x, Check.IDENTITY, 13, 7, 8);
        Check.putAll(x, Check.PLACES, 11, 0, 7);
        Check.putAll(x, Check.LATEST, 10, 1, 2, 3);
        x.collect(0);
        x.walk(Check.IDENTITY);
        x.put(Check.IDENTITY, 6, 13);
        x.walk(Check.SOFT);
        x.walk(Check.PLACES);
        x.walk(Check.WEAK);
        x.step(Check.WEAK);
        x.step(Check.PLACES);
        x.step(Check.PLACES);
        return x;
    }

    /** 32 objects, twelve entries of IDENTITY, and a walk of it in its midst. */
    private static HoldMaps full() {
        HoldMaps x = Check.withNumbers(32);
        Check.putAll(x, Check.IDENTITY, 31, 0, 1, 2, 3, 4, 5, 6, 7, 8, 9, 10, 11);
        x.root(PROBE, true);
        x.put(Check.SOFT, 0, 20);
        x.walk(Check.IDENTITY);
        x.step(Check.IDENTITY);
        return x;
    }

    /** Takes the object to pieces to tell all of it: at last, when each entry of SOFT goes for want of use. */
    private static String tell(HoldMaps x) {
        StringBuilder text = new StringBuilder();
        for (int map = 0; map < Check.MAPS; map++) {
            text.append(Check.steps(x, map)).append(" [").append(Check.row(x, map)).append("] ");
        }
        text.append(Check.counts(x)).append(' ');
        for (int object = 0; object < 32; object++) {
            int o = object;
            text.append(x.value(o)).append(Check.answer(() -> x.root(o, o == PROBE) ? 1 : 0).charAt(0));
            text.append(Check.answer(() -> x.refer(o, 0, Check.NONE))).append('/');
            text.append(Check.answer(() -> x.refer(o, 1, Check.NONE))).append(' ');
        }
        for (int i = 0; i < 14; i++) {
            x.get(Check.SOFT, PROBE);
            text.append(x.collect(0)).append('[').append(Check.row(x, Check.SOFT)).append("] ");
        }
        return text.append(Check.counts(x)).toString();
    }

    private static void leaves(String what, Supplier<HoldMaps> build, String twin, String due,
            ToLongFunction<HoldMaps> call) {
        HoldMaps x = build.get();
        CHECK.same(what, Check.answer(() -> call.applyAsLong(x)), due);
        CHECK.same(what + " leaves all as it was", tell(x), twin);
    }

    private static void leavesRich(String what, String due, ToLongFunction<HoldMaps> call) {
        leaves(what, RefusedCallsTest::rich, RICH, due, call);
    }

    private static void leavesFull(String what, String due, ToLongFunction<HoldMaps> call) {
        leaves(what + ", full", RefusedCallsTest::full, FULL, due, call);
    }

    /** Numbers of no object: outside, not made yet, or collected. */
    private static int[] noObjects() {
        int[] outside = Check.outside(OBJECTS);
        int[] all = java.util.Arrays.copyOf(outside, outside.length + 1);
        all[outside.length] = GONE;
        return all;
    }

    private static void makeWrongValue() {
        for (int value : Check.outside(100)) {
            leavesRich("make " + value, ARGUMENT, x -> x.make(value));
            leavesFull("make " + value, ARGUMENT, x -> x.make(value));
        }
    }

    private static void makeFull() {
        leavesFull("make 0", STATE, x -> x.make(0));
        leavesFull("make 99", STATE, x -> x.make(99));
    }

    private static void refer() {
        for (int object : noObjects()) {
            leavesRich("refer of " + object, ARGUMENT, x -> x.refer(object, 0, 1));
            if (object != Check.NONE) {
                leavesRich("refer to " + object, ARGUMENT, x -> x.refer(0, 0, object));
            }
        }
        for (int which : Check.outside(2)) {
            leavesRich("refer " + which, ARGUMENT, x -> x.refer(0, which, 1));
            leavesRich("refer " + which + " to none", ARGUMENT, x -> x.refer(0, which, Check.NONE));
        }
    }

    private static void root() {
        for (int object : noObjects()) {
            leavesRich("root " + object, ARGUMENT, x -> x.root(object, true) ? 1 : 0);
            leavesRich("no root " + object, ARGUMENT, x -> x.root(object, false) ? 1 : 0);
        }
    }

    private static void put() {
        for (int map : Check.outside(Check.MAPS)) {
            leavesRich("put into map " + map, ARGUMENT, x -> x.put(map, 1, 2));
        }
        for (int map = 0; map < Check.MAPS; map++) {
            int m = map;
            for (int object : noObjects()) {
                leavesRich("put key " + object + " into map " + map, ARGUMENT, x -> x.put(m, object, 2));
                leavesRich("put value " + object + " into map " + map, ARGUMENT, x -> x.put(m, 1, object));
                leavesRich("put value " + object + " of a new key into map " + map, ARGUMENT, x -> x.put(m, 5, object));
            }
        }
        leavesRich("put 8 into PLACES", ARGUMENT, x -> x.put(Check.PLACES, 8, 2));
        leavesRich("put 98 into PLACES", ARGUMENT, x -> x.put(Check.PLACES, PROBE, 2));
    }

    private static void putFull() {
        for (int key = 12; key < 32; key++) {
            int k = key;
            leavesFull("put " + key, STATE, x -> x.put(Check.IDENTITY, k, 3));
        }
        leavesFull("put no value", ARGUMENT, x -> x.put(Check.IDENTITY, 12, 32));
    }

    private static void get() {
        for (int map : Check.outside(Check.MAPS)) {
            leavesRich("get from map " + map, ARGUMENT, x -> x.get(map, 1));
        }
        for (int map = 0; map < Check.MAPS; map++) {
            int m = map;
            for (int object : noObjects()) {
                leavesRich("get " + object + " from map " + map, ARGUMENT, x -> x.get(m, object));
            }
            if (map != Check.SOFT && map != Check.PLACES) {
                leavesRich("get of no entry from map " + map, "-1", x -> x.get(m, PROBE));
            }
        }
        leavesRich("get 8 from PLACES", ARGUMENT, x -> x.get(Check.PLACES, 8));
        leavesRich("get 98 from PLACES", ARGUMENT, x -> x.get(Check.PLACES, PROBE));
    }

    private static void remove() {
        for (int map : Check.outside(Check.MAPS)) {
            leavesRich("remove from map " + map, ARGUMENT, x -> x.remove(map, 1));
        }
        for (int map = 0; map < Check.MAPS; map++) {
            int m = map;
            for (int object : noObjects()) {
                leavesRich("remove " + object + " from map " + map, ARGUMENT, x -> x.remove(m, object));
            }
        }
        leavesRich("remove 8 from PLACES", ARGUMENT, x -> x.remove(Check.PLACES, 8));
        leavesRich("remove 98 from PLACES", ARGUMENT, x -> x.remove(Check.PLACES, PROBE));
    }

    private static void removeNone() {
        int[] noKeys = {PROBE, PROBE, PROBE, 5, PROBE};
        for (int map = 0; map < Check.MAPS; map++) {
            int m = map;
            leavesRich("remove from map " + map, "-1", x -> x.remove(m, noKeys[m]));
        }
    }

    private static void entry() {
        for (int map : Check.outside(Check.MAPS)) {
            leavesRich("entry of map " + map, ELEMENT, x -> x.entry(map, 0, 0));
        }
        int[] sizes = {4, 4, 3, 2, 3};
        for (int map = 0; map < Check.MAPS; map++) {
            int m = map;
            for (int k : Check.outside(sizes[map])) {
                leavesRich("entry " + k + " of map " + map, ELEMENT, x -> x.entry(m, k, 0));
            }
            for (int what : Check.outside(2)) {
                leavesRich("what " + what + " of map " + map, ELEMENT, x -> x.entry(m, 0, what));
            }
        }
    }

    private static long walked(HoldMaps x, int map) {
        x.walk(map);
        return 0;
    }

    private static void walk() {
        for (int map : Check.outside(Check.MAPS)) {
            leavesRich("walk of map " + map, ARGUMENT, x -> walked(x, map));
        }
    }

    private static void stepWrongMap() {
        for (int map : Check.outside(Check.MAPS)) {
            leavesRich("step of map " + map, ARGUMENT, x -> x.step(map));
        }
        leavesRich("step without a walk", ARGUMENT, x -> x.step(Check.LATEST));
    }

    private static void stepBroken() {
        leavesRich("step of a broken walk", STATE, x -> x.step(Check.IDENTITY));
    }

    private static void stepAtItsEnd() {
        leavesRich("step at the end", ELEMENT, x -> x.step(Check.PLACES));
    }

    private static void collect() {
        for (int pressure : Check.outside(4)) {
            leavesRich("collect with " + pressure, ARGUMENT, x -> x.collect(pressure));
            leavesFull("collect with " + pressure, ARGUMENT, x -> x.collect(pressure));
        }
    }

    private static void looking() {
        for (int map = 0; map < Check.MAPS; map++) {
            int m = map;
            String size = String.valueOf(rich().size(map));
            leavesRich("size of map " + map, size, x -> x.size(m));
            for (int what = 0; what < 2; what++) {
                int w = what;
                String due = String.valueOf(rich().entry(map, 0, what));
                leavesRich("entry 0 of map " + map, due, x -> x.entry(m, 0, w));
            }
        }
        leavesRich("size of no map", "-1", x -> x.size(5));
        leavesRich("value", "98", x -> x.value(PROBE));
        leavesRich("value of none", "-1", x -> x.value(GONE));
        leavesRich("count of nothing", "-1", x -> x.count(4));
        leavesRich("count", "17", x -> x.count(0));
    }
}
