/** The sentences under OBJECTS. */
public final class TermsObjectsTest {
    private static final Check CHECK = new Check();

    public static void main(String[] args) {
        CHECK.sentence("OBJECTS are at most 32", TermsObjectsTest::atMost32);
        CHECK.sentence("numbered 0 .. 31", TermsObjectsTest::numbered);
        CHECK.sentence("a new one gets the lowest number that is free", TermsObjectsTest::lowestFree);
        CHECK.sentence("Each has a VALUE 0 .. 99", TermsObjectsTest::values);
        CHECK.sentence("and two REFERENCES", TermsObjectsTest::twoReferences);
        CHECK.sentence("each to an object or none", TermsObjectsTest::toAnObjectOrNone);
        CHECK.sentence("Objects with one value are EQUAL", TermsObjectsTest::equalObjects);
        CHECK.sentence("ROOTS are objects that are held from outside", TermsObjectsTest::roots);
        CHECK.end();
    }

    private static void atMost32() {
        HoldMaps x = Check.withNumbers(32);
        CHECK.same("32", x.count(0), 32);
        CHECK.badState("33", () -> x.make(0));
        CHECK.same("all are collected", x.collect(0), 32);
        for (int i = 0; i < 32; i++) {
            x.make(i);
        }
        CHECK.badState("33 again, for collected ones do not count", () -> x.make(0));
    }

    private static void numbered() {
        HoldMaps x = new HoldMaps();
        for (int number = 0; number < 32; number++) {
            CHECK.same("not there yet", x.value(number), Check.NONE);
            CHECK.same("its number", x.make(50), number);
            CHECK.same("there now", x.value(number), 50);
        }
        CHECK.same("none behind and none before", x.value(32) + " " + x.value(-1), "-1 -1");
    }

    /** The free numbers are at both ends and in the middle, one alone and two side by side. */
    private static void lowestFree() {
        HoldMaps x = Check.withNumbers(32);
        for (int number = 0; number < 32; number++) {
            x.root(number, number != 0 && number != 9 && number != 20 && number != 21 && number != 31);
        }
        CHECK.same("five go", x.collect(0), 5);
        CHECK.same("the first three", x.make(40) + " " + x.make(41) + " " + x.make(42), "0 9 20");
        Check.rootAll(x, 9, 20);
        CHECK.same("0 goes again", x.collect(0), 1);
        CHECK.same("the rest", x.make(43) + " " + x.make(44) + " " + x.make(45), "0 21 31");
        CHECK.badState("none is free", () -> x.make(46));
        CHECK.same("their values", x.value(0) + " " + x.value(9) + " " + x.value(20) + " " + x.value(21) + " "
                + x.value(31), "43 41 42 44 45");
    }

    private static void values() {
        for (int value = 0; value < 100; value++) {
            HoldMaps x = Check.with(value);
            CHECK.same("value " + value, x.value(0), value);
        }
        HoldMaps x = new HoldMaps();
        CHECK.badArgument("too small", () -> x.make(-1));
        CHECK.badArgument("too large", () -> x.make(100));
    }

    private static void twoReferences() {
        HoldMaps x = Check.withNumbers(4);
        x.refer(0, 0, 1);
        x.refer(0, 1, 2);
        CHECK.badArgument("no third one", () -> x.refer(0, 2, 3));
        CHECK.badArgument("none before the first", () -> x.refer(0, -1, 3));
        x.root(0, true);
        CHECK.same("both hold", x.collect(0) + " " + Check.living(x), "1 0 1 2");
        CHECK.same("both can be told", x.refer(0, 0, 0) + " " + x.refer(0, 1, 0), "1 2");
    }

    private static void toAnObjectOrNone() {
        HoldMaps x = Check.withNumbers(32);
        CHECK.same("none at first", x.refer(5, 0, 31) + " " + x.refer(5, 1, 0), "-1 -1");
        CHECK.same("to both ends", x.refer(5, 0, Check.NONE) + " " + x.refer(5, 1, Check.NONE), "31 0");
        CHECK.same("none again", x.refer(5, 0, 5) + " " + x.refer(5, 1, 5), "-1 -1");
        x.root(0, true);
        x.collect(0);
        for (int number = 1; number <= 5; number++) {
            x.make(50 + number);
        }
        CHECK.same("none in one that comes in its place", x.refer(5, 0, 5) + " " + x.refer(5, 1, 5) + " "
                + x.value(5), "-1 -1 55");
    }

    /** Equality shows in the maps: a key finds the entry of an equal one, and of no other. */
    private static void equalObjects() {
        for (int value = 0; value < 100; value++) {
            HoldMaps x = new HoldMaps();
            x.make(value);
            x.make(value);
            x.put(Check.WEAK, 0, 0);
            x.put(Check.SOFT, 0, 0);
            x.put(Check.LATEST, 0, 0);
            String what = "equal to value " + value;
            CHECK.same(what, x.get(Check.WEAK, 1) + x.get(Check.SOFT, 1) + x.get(Check.LATEST, 1), 0);
            for (int other : new int[] {value ^ 1, value ^ 16, value ^ 32, value ^ 64, 99 - value}) {
                if (other <= 99) {
                    int o = x.make(other);
                    what = "value " + other + " is not equal to " + value;
                    CHECK.same(what, x.get(Check.WEAK, o) + x.get(Check.SOFT, o) + x.get(Check.LATEST, o), -3);
                }
            }
        }
    }

    private static void roots() {
        HoldMaps x = Check.withNumbers(32);
        for (int object = 0; object < 32; object++) {
            x.root(object, true);
        }
        CHECK.same("all are held", x.collect(3), 0);
        for (int object = 0; object < 32; object++) {
            x.root(object, false);
            CHECK.same("one is held no more", x.collect(0) + " " + x.value(object), "1 -1");
        }
        x.make(0);
        CHECK.same("a new one is no root", x.collect(0), 1);
    }
}
