public final class Promise13ValueTest {
    private static final Check CHECK = new Check();

    public static void main(String[] args) {
        CHECK.sentence("The VALUE of an object", Promise13ValueTest::valueOfAnObject);
        CHECK.sentence("NONE when there is none", Promise13ValueTest::noneWhenThereIsNone);
        CHECK.sentence("when there is none: a collected one", Promise13ValueTest::collectedOne);
        CHECK.end();
    }

    private static void valueOfAnObject() {
        for (int from = 0; from < 100; from += 25) {
            HoldMaps x = new HoldMaps();
            for (int i = 0; i < 25; i++) {
                x.make(from + i);
            }
            for (int i = 0; i < 25; i++) {
                CHECK.same("object " + i, x.value(i), from + i);
            }
        }
        HoldMaps x = Check.withNumbers(32);
        CHECK.same("the last one of 32", x.value(31), 31);
    }

    private static void noneWhenThereIsNone() {
        HoldMaps x = new HoldMaps();
        for (int object : Check.outside(0)) {
            CHECK.same("object " + object + " of none", x.value(object), Check.NONE);
        }
        HoldMaps y = Check.withNumbers(3);
        for (int object : Check.outside(3)) {
            CHECK.same("object " + object + " of 3", y.value(object), Check.NONE);
        }
        HoldMaps z = Check.withNumbers(32);
        for (int object : Check.outside(32)) {
            CHECK.same("object " + object + " of 32", z.value(object), Check.NONE);
        }
    }

    private static void collectedOne() {
        HoldMaps x = Check.with(0, 99, 42);
        x.root(1, true);
        x.collect(0);
        CHECK.same("the second one is left", x.value(0) + " " + x.value(1) + " " + x.value(2), "-1 99 -1");
        x.make(7);
        CHECK.same("a new one in its place", x.value(0) + " " + x.value(1) + " " + x.value(2), "7 99 -1");
    }
}
