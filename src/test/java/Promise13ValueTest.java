public final class Promise13ValueTest {
    public static void main(String[] args) {
        Check check = new Check();
        HoldMaps x = Check.with(0, 99, 42);
        check.same("values", x.value(0) + " " + x.value(1) + " " + x.value(2), "0 99 42");
        int[] noObjects = {-1, 3, 31, 32, Integer.MIN_VALUE, Integer.MAX_VALUE};
        for (int object : noObjects) {
            check.same("no object " + object, x.value(object), Check.NONE);
        }
        x.root(1, true);
        x.collect(0);
        check.same("collected", x.value(0) + " " + x.value(1) + " " + x.value(2), "-1 99 -1");
        x.make(7);
        check.same("a new one in its place", x.value(0), 7);
        check.end();
    }
}
