public final class Promise04RootTest {
    private static final Check CHECK = new Check();

    public static void main(String[] args) {
        CHECK.sentence("An object is a root from now on", Promise04RootTest::isRootFromNowOn);
        CHECK.sentence("or no more", Promise04RootTest::orNoMore);
        CHECK.sentence("what it was", Promise04RootTest::whatItWas);
        CHECK.sentence("there is no such object", Promise04RootTest::noSuchObject);
        CHECK.end();
    }

    private static void isRootFromNowOn() {
        HoldMaps x = Check.withNumbers(32);
        Check.rootAll(x, 0, 31);
        for (int pressure = 0; pressure < 4; pressure++) {
            x.collect(pressure);
            CHECK.same("pressure " + pressure, Check.living(x), "0 31");
        }
    }

    private static void orNoMore() {
        HoldMaps x = Check.withNumbers(3);
        Check.rootAll(x, 0, 1, 1);
        x.root(1, false);
        x.root(2, false);
        CHECK.same("twice a root, once no more", x.collect(0) + " " + Check.living(x), "2 0");
        x.root(0, false);
        CHECK.same("the last one", x.collect(0), 1);
    }

    private static void whatItWas() {
        HoldMaps x = Check.withNumbers(32);
        CHECK.same("no root at first", x.root(31, false), false);
        CHECK.same("none yet", x.root(31, true), false);
        CHECK.same("a root", x.root(31, true), true);
        CHECK.same("still a root", x.root(31, false), true);
        CHECK.same("no more", x.root(31, false), false);
        CHECK.same("others are apart", x.root(0, true) + " " + x.root(1, true), "false false");
    }

    private static void noSuchObject() {
        HoldMaps x = Check.withNumbers(3);
        for (int object : Check.outside(3)) {
            CHECK.badArgument("object " + object, () -> x.root(object, true) ? 1 : 0);
            CHECK.badArgument("object " + object + ", no more", () -> x.root(object, false) ? 1 : 0);
        }
        x.root(1, true);
        x.collect(0);
        CHECK.badArgument("a collected one", () -> x.root(2, true) ? 1 : 0);
        CHECK.badArgument("a collected one, no more", () -> x.root(0, false) ? 1 : 0);
        CHECK.same("a new one in its place is no root", x.make(0) + " " + x.root(0, true), "0 false");
    }
}
