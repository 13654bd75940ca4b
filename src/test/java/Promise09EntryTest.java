public final class Promise09EntryTest {
    public static void main(String[] args) {
        Check check = new Check();
        HoldMaps x = Check.with(7, 3, 50, 60);
        int[] outside = {-1, 2, 16, 32, Integer.MIN_VALUE, Integer.MAX_VALUE};
        for (int map = 0; map < 5; map++) {
            int m = map;
            check.noElement("an empty map " + map, x, () -> x.entry(m, 0, 0));
            x.put(map, 1, 2);
            x.put(map, 0, 3);
            for (int k : outside) {
                check.noElement("no entry " + k + " in map " + map, x, () -> x.entry(m, k, 0));
                check.noElement("no entry " + k + " in map " + map, x, () -> x.entry(m, k, 1));
            }
            for (int what : outside) {
                check.noElement("nothing " + what + " in map " + map, x, () -> x.entry(m, 0, what));
            }
        }
        int[] noMaps = {-1, 5, Integer.MIN_VALUE, Integer.MAX_VALUE};
        for (int map : noMaps) {
            check.noElement("no map " + map, x, () -> x.entry(map, 0, 0));
        }
        check.same("WEAK, both in bucket 3", Check.row(x, Check.WEAK), "0=3 1=2");
        check.same("SOFT", Check.row(x, Check.SOFT), "1=2 0=3");
        check.same("IDENTITY, slots 0 and 7", Check.row(x, Check.IDENTITY), "0=3 1=2");
        check.same("PLACES, numbers for keys", Check.row(x, Check.PLACES), "3=2 7=3");
        check.same("LATEST", Check.row(x, Check.LATEST), "1=2 0=3");
        x.entry(Check.LATEST, 0, 1);
        x.entry(Check.SOFT, 0, 1);
        check.same("to look is no use", Check.row(x, Check.LATEST) + " " + x.count(3), "1=2 0=3 2");
        check.end();
    }
}
