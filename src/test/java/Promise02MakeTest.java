public final class Promise02MakeTest {
    private static final Check CHECK = new Check();

    public static void main(String[] args) {
        CHECK.sentence("A new object: its number", Promise02MakeTest::aNewObject);
        CHECK.sentence("a new object where another one was", Promise02MakeTest::whereAnotherOneWas);
        CHECK.sentence("IllegalArgumentException: value is not 0 .. 99", Promise02MakeTest::wrongValues);
        CHECK.sentence("IllegalStateException: there are 32", Promise02MakeTest::thereAre32);
        CHECK.sentence("IllegalArgumentException, IllegalStateException", Promise02MakeTest::bothAreWrong);
        CHECK.end();
    }

    private static void aNewObject() {
        HoldMaps x = new HoldMaps();
        for (int number = 0; number < 32; number++) {
            CHECK.same("its number", x.make(99 - number), number);
            CHECK.same("its value", x.value(number), 99 - number);
            CHECK.same("how many", x.count(0), number + 1);
        }
        CHECK.same("a reference, another one, a root", x.refer(31, 0, 0) + " " + x.refer(31, 1, 0) + " "
                + x.root(31, true), "-1 -1 false");
    }

    private static void whereAnotherOneWas() {
        HoldMaps x = Check.with(10, 11, 12);
        x.refer(1, 0, 2);
        x.refer(1, 1, 1);
        x.root(1, true);
        x.root(1, false);
        x.put(Check.WEAK, 1, 0);
        CHECK.same("two go", x.collect(0), 2);
        CHECK.same("its number", x.make(11), 1);
        CHECK.same("no references", x.refer(1, 0, Check.NONE) + " " + x.refer(1, 1, Check.NONE), "-1 -1");
        CHECK.same("no root", x.root(1, false), false);
        CHECK.same("no key of an entry", x.get(Check.WEAK, 1), Check.NONE);
    }

    private static void wrongValues() {
        HoldMaps x = new HoldMaps();
        for (int value : Check.outside(100)) {
            CHECK.badArgument("value " + value, () -> x.make(value));
        }
        CHECK.same("none was made", x.count(0), 0);
        CHECK.same("the lowest one", x.make(0), 0);
        CHECK.same("the highest one", x.make(99), 1);
    }

    private static void thereAre32() {
        HoldMaps x = Check.withNumbers(31);
        CHECK.same("the 32nd", x.make(99), 31);
        CHECK.badState("a 33rd", () -> x.make(0));
        CHECK.badState("and again", () -> x.make(99));
        CHECK.same("there are still 32", x.count(0), 32);
        Check.rootAll(x, 0, 1, 2, 3, 4, 5, 6, 7, 8, 9, 10, 11, 12, 13, 14, 15, 16, 17, 18, 19, 20, 21, 22, 23, 24, 25,
                26, 27, 28, 29, 31);
        x.collect(0);
        CHECK.same("room for one", x.make(5), 30);
        CHECK.badState("and no more", () -> x.make(5));
    }

    private static void bothAreWrong() {
        HoldMaps x = Check.withNumbers(32);
        CHECK.badArgument("too small", () -> x.make(-1));
        CHECK.badArgument("too large", () -> x.make(100));
    }
}
