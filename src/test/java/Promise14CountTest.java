public final class Promise14CountTest {
    private static final Check CHECK = new Check();

    public static void main(String[] args) {
        HoldMaps x = Check.withNumbers(9);
        int[] nothing = {-1, 4, Integer.MIN_VALUE, Integer.MAX_VALUE};
        for (int what : nothing) {
            CHECK.same("count of " + what, x.count(what), Check.NONE);
        }
        counts("nine objects", x, "9 0 4 0");
        Check.putAll(x, Check.WEAK, 0, 0, 1, 2, 3);
        counts("doubled", x, "9 0 8 0");
        Check.putAll(x, Check.SOFT, 8, 0, 1, 1);
        x.get(Check.SOFT, 1);
        x.get(Check.SOFT, 7);
        x.remove(Check.SOFT, 0);
        x.get(Check.LATEST, 1);
        Check.answer(() -> x.get(Check.SOFT, 30));
        Check.answer(() -> x.put(Check.SOFT, 1, 30));
        counts("puts and gets of SOFT, not the refused ones", x, "9 0 8 5");
        x.collect(0);
        counts("six collected, 0 and 1 and the young value stay", x, "3 6 8 5");
        x.make(1);
        counts("another one", x, "4 6 8 5");
        x.collect(3);
        counts("collected are summed up, buckets stay", x, "2 8 8 5");
        CHECK.end();
    }

    private static void counts(String what, HoldMaps x, String due) {
        CHECK.same(what, x.count(0) + " " + x.count(1) + " " + x.count(2) + " " + x.count(3), due);
    }
}
