public final class Promise02MakeTest {
    public static void main(String[] args) {
        Check check = new Check();
        HoldMaps x = new HoldMaps();
        check.badArgument("-1", x, () -> x.make(-1));
        check.badArgument("100", x, () -> x.make(100));
        check.badArgument("the least int", x, () -> x.make(Integer.MIN_VALUE));
        check.badArgument("the greatest int", x, () -> x.make(Integer.MAX_VALUE));
        check.same("lowest value", x.make(0), 0);
        check.same("highest value", x.make(99), 1);
        check.same("the values", x.value(0) + " " + x.value(1), "0 99");
        for (int i = 2; i < 32; i++) {
            check.same("object " + i, x.make(i), i);
        }
        check.badState("a 33rd", x, () -> x.make(5));
        check.badArgument("a wrong value counts before a full room", x, () -> x.make(100));

        for (int i = 0; i < 32; i++) {
            x.root(i, i != 4 && i != 20);
        }
        x.refer(4, 0, 5);
        x.refer(4, 1, 4);
        check.same("two are collected", x.collect(0), 2);
        check.same("lowest free number", x.make(50), 4);
        check.same("what it was before is gone", Check.reference(x, 4, 0) + " " + Check.reference(x, 4, 1)
                + " " + Check.isRoot(x, 4) + " " + x.value(4), "-1 -1 false 50");
        check.same("next free number", x.make(51), 20);
        check.badState("full again", x, () -> x.make(52));
        check.end();
    }
}
