public final class Promise04RootTest {
    public static void main(String[] args) {
        Check check = new Check();
        HoldMaps x = Check.withNumbers(3);
        check.same("no root at first", x.root(0, false), false);
        check.same("becomes one", x.root(0, true), false);
        check.same("is one", x.root(0, true), true);
        check.same("is one no more", x.root(0, false), true);
        check.same("and stays none", x.root(0, false), false);
        check.same("others are apart", x.root(1, true), false);

        int[] noObjects = {-1, 3, 31, 32, Integer.MIN_VALUE, Integer.MAX_VALUE};
        for (int object : noObjects) {
            check.badArgument("no object " + object, x, () -> x.root(object, true) ? 1 : 0);
            check.badArgument("no object " + object, x, () -> x.root(object, false) ? 1 : 0);
        }
        check.same("roots stay", x.collect(3), 2);
        check.same("object 1", Check.living(x), "1");
        check.badArgument("a collected one", x, () -> x.root(0, true) ? 1 : 0);
        x.root(1, false);
        check.same("no root stays", x.collect(0), 1);
        check.end();
    }
}
