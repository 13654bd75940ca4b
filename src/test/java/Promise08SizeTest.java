public final class Promise08SizeTest {
    public static void main(String[] args) {
        Check check = new Check();
        HoldMaps x = Check.withNumbers(8);
        int[] noMaps = {-1, 5, Integer.MIN_VALUE, Integer.MAX_VALUE};
        for (int map : noMaps) {
            check.same("no map " + map, x.size(map), Check.NONE);
        }
        for (int map = 0; map < 5; map++) {
            for (int key = 0; key < 8; key++) {
                x.put(map, key, 0);
                x.put(map, key, 1);
                check.same("size of map " + map, x.size(map), map == Check.LATEST ? Math.min(key + 1, 6) : key + 1);
            }
            x.remove(map, 7);
            x.remove(map, 7);
            check.same("one away from map " + map, x.size(map), map == Check.LATEST ? 5 : 7);
        }
        HoldMaps y = Check.withNumbers(4);
        y.put(Check.WEAK, 0, 1);
        y.put(Check.SOFT, 2, 3);
        y.collect(3);
        check.same("collecting takes entries", y.size(Check.WEAK) + " " + y.size(Check.SOFT), "0 0");
        check.end();
    }
}
