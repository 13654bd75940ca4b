public final class Promise03ReferTest {
    public static void main(String[] args) {
        Check check = new Check();
        HoldMaps x = Check.withNumbers(4);
        check.same("none at first", x.refer(0, 0, 1), Check.NONE);
        check.same("the other is apart", x.refer(0, 1, 2), Check.NONE);
        check.same("what it was", x.refer(0, 0, 3), 1);
        check.same("to itself", x.refer(0, 0, 0), 3);
        check.same("to none", x.refer(0, 0, Check.NONE), 0);
        check.same("it is none", x.refer(0, 0, Check.NONE), Check.NONE);
        check.same("the other is as it was", x.refer(0, 1, 2), 2);
        check.same("another object's is apart", x.refer(2, 1, 0), Check.NONE);

        int[] noObjects = {-1, 4, 31, 32, Integer.MIN_VALUE, Integer.MAX_VALUE};
        for (int object : noObjects) {
            check.badArgument("no object " + object, x, () -> x.refer(object, 0, 1));
            if (object != Check.NONE) {
                check.badArgument("to no object " + object, x, () -> x.refer(0, 1, object));
            }
        }
        check.badArgument("to -2", x, () -> x.refer(0, 0, -2));
        check.badArgument("reference -1", x, () -> x.refer(0, -1, 1));
        check.badArgument("reference 2", x, () -> x.refer(0, 2, 1));
        check.badArgument("reference -1 to none", x, () -> x.refer(0, -1, Check.NONE));

        x.root(0, true);
        x.collect(0);
        check.same("what a root refers to stays", Check.living(x), "0 2");
        check.badArgument("to a collected one", x, () -> x.refer(0, 0, 1));
        check.badArgument("of a collected one", x, () -> x.refer(1, 0, 0));
        check.end();
    }
}
