public final class Promise10WalkTest {
    public static void main(String[] args) {
        Check check = new Check();
        HoldMaps x = Check.withNumbers(3);
        int[] noMaps = {-1, 5, Integer.MIN_VALUE, Integer.MAX_VALUE};
        for (int map : noMaps) {
            check.badArgument("no map " + map, x, () -> {
                x.walk(map);
                return 0;
            });
        }
        for (int map = 0; map < 5; map++) {
            int m = map;
            x.put(map, 1, 2);
            check.badArgument("no walk of map " + map + " yet", x, () -> x.step(m));
            x.walk(map);
            check.same("begins in map " + map, x.step(map), 1);
            x.walk(map);
            check.same("begins anew in map " + map, x.step(map), 1);
            check.noElement("at its end in map " + map, x, () -> x.step(m));
            x.walk(map);
            x.put(map, 0, 2);
            check.badState("broken in map " + map, x, () -> x.step(m));
            x.walk(map);
            check.same("in place of a broken one in map " + map, x.step(map), x.entry(map, 0, 0));
        }
        for (int map = 0; map < 5; map++) {
            check.same("each map has its own: " + map, x.step(map), x.entry(map, 1, 0));
        }
        check.end();
    }
}
