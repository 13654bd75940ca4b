/** What collect answers; what is held and what goes is tested with the terms. */
public final class Promise12CollectTest {
    private static final Check CHECK = new Check();

    public static void main(String[] args) {
        CHECK.sentence("Collects with a pressure", Promise12CollectTest::collectsWithAPressure);
        CHECK.sentence("how many objects were collected", Promise12CollectTest::howMany);
        CHECK.sentence("how many: entries that go are no objects", Promise12CollectTest::entriesAreNoObjects);
        CHECK.sentence("IllegalArgumentException: it is not 0 .. 3", Promise12CollectTest::wrongPressures);
        CHECK.end();
    }

    /** A value of SOFT that is 4 old goes with pressure 2, not with 1. */
    private static void collectsWithAPressure() {
        int[] due = {0, 0, 1, 1};
        for (int pressure = 0; pressure < 4; pressure++) {
            HoldMaps x = Check.withNumbers(3);
            x.root(2, true);
            x.put(Check.SOFT, 0, 1);
            Check.age(x, 2, 4);
            CHECK.same("pressure " + pressure, x.collect(pressure), due[pressure]);
        }
    }

    private static void howMany() {
        for (int objects = 0; objects <= 32; objects++) {
            for (int roots = 0; roots <= objects; roots += 4) {
                HoldMaps x = Check.withNumbers(objects);
                for (int i = 0; i < roots; i++) {
                    x.root(objects - 1 - i, true);
                }
                CHECK.same(objects + " with " + roots + " roots", x.collect(0), objects - roots);
                CHECK.same("no more", x.collect(3), 0);
            }
        }
    }

    private static void entriesAreNoObjects() {
        HoldMaps x = Check.withNumbers(4);
        x.root(3, true);
        Check.putAll(x, Check.WEAK, 3, 0, 1);
        x.put(Check.SOFT, 3, 2);
        CHECK.same("three objects and three entries", x.collect(3), 3);
        CHECK.same("the maps are empty", x.size(Check.WEAK) + " " + x.size(Check.SOFT), "0 0");
    }

    private static void wrongPressures() {
        HoldMaps x = Check.withNumbers(3);
        for (int pressure : Check.outside(4)) {
            CHECK.badArgument("pressure " + pressure, () -> x.collect(pressure));
        }
        CHECK.same("nothing was collected", x.count(0) + " " + x.count(1), "3 0");
        CHECK.same("the lowest one", x.collect(0), 3);
        x.make(0);
        CHECK.same("the highest one", x.collect(3), 1);
    }
}
