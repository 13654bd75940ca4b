public final class Promise03ReferTest {
    private static final Check CHECK = new Check();

    public static void main(String[] args) {
        CHECK.sentence("Sets a reference (0, 1) of an object", Promise03ReferTest::setsOneReference);
        CHECK.sentence("to another one, or itself, or NONE", Promise03ReferTest::toAnyObjectOrNone);
        CHECK.sentence("what it was", Promise03ReferTest::whatItWas);
        CHECK.sentence("there is no such object", Promise03ReferTest::noSuchObject);
        CHECK.sentence("there is no such object to refer to", Promise03ReferTest::noSuchObjectToReferTo);
        CHECK.sentence("there is no such reference", Promise03ReferTest::noSuchReference);
        CHECK.end();
    }

    private static void setsOneReference() {
        HoldMaps x = Check.withNumbers(32);
        x.refer(0, 0, 31);
        x.refer(0, 1, 30);
        x.refer(31, 1, 0);
        CHECK.same("the first ones", Check.reference(x, 0, 0) + " " + Check.reference(x, 31, 0), "31 -1");
        CHECK.same("the second ones", Check.reference(x, 0, 1) + " " + Check.reference(x, 31, 1), "30 0");
        CHECK.same("nobody else's", Check.reference(x, 1, 0) + " " + Check.reference(x, 30, 1), "-1 -1");
    }

    private static void toAnyObjectOrNone() {
        HoldMaps x = Check.withNumbers(4);
        x.root(0, true);
        x.refer(0, 0, 1);
        x.refer(0, 1, 0);
        x.refer(1, 1, 3);
        CHECK.same("to another one and to itself", x.collect(0) + " " + Check.living(x), "1 0 1 3");
        x.refer(0, 0, Check.NONE);
        CHECK.same("to none", x.collect(0) + " " + Check.living(x), "2 0");
    }

    private static void whatItWas() {
        HoldMaps x = Check.withNumbers(32);
        CHECK.same("none at first", x.refer(31, 1, 31), Check.NONE);
        CHECK.same("itself", x.refer(31, 1, 0), 31);
        CHECK.same("the lowest", x.refer(31, 1, 0), 0);
        CHECK.same("the same again", x.refer(31, 1, Check.NONE), 0);
        CHECK.same("none", x.refer(31, 1, Check.NONE), Check.NONE);
    }

    private static void noSuchObject() {
        HoldMaps x = Check.withNumbers(4);
        for (int object : Check.outside(4)) {
            CHECK.badArgument("object " + object, () -> x.refer(object, 0, 1));
            CHECK.badArgument("object " + object + ", none", () -> x.refer(object, 1, Check.NONE));
        }
        x.root(0, true);
        x.collect(0);
        CHECK.badArgument("a collected one", () -> x.refer(3, 0, 0));
        CHECK.badArgument("a collected one to itself", () -> x.refer(1, 0, 1));
    }

    private static void noSuchObjectToReferTo() {
        HoldMaps x = Check.withNumbers(4);
        x.refer(0, 0, 2);
        for (int to : Check.outside(4)) {
            if (to != Check.NONE) {
                CHECK.badArgument("to " + to, () -> x.refer(0, 0, to));
            }
        }
        x.root(0, true);
        x.collect(0);
        CHECK.badArgument("to a collected one", () -> x.refer(0, 0, 3));
        CHECK.same("it is what it was", x.refer(0, 0, 0), 2);
    }

    private static void noSuchReference() {
        HoldMaps x = Check.withNumbers(4);
        x.refer(0, 0, 2);
        x.refer(0, 1, 3);
        for (int which : Check.outside(2)) {
            CHECK.badArgument("reference " + which, () -> x.refer(0, which, 1));
            CHECK.badArgument("reference " + which + ", none", () -> x.refer(0, which, Check.NONE));
        }
        CHECK.same("they are what they were", x.refer(0, 0, 0) + " " + x.refer(0, 1, 0), "2 3");
    }
}
