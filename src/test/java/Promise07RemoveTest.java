public final class Promise07RemoveTest {
    private static final Check CHECK = new Check();

    public static void main(String[] args) {
        wrongArguments();
        for (int map = 0; map < 5; map++) {
            takesAway(map);
        }
        rowsStay();
        identityCloses();
        identityGoesRound();
        CHECK.end();
    }

    private static void wrongArguments() {
        HoldMaps x = Check.withNumbers(9);
        for (int map = 0; map < 5; map++) {
            x.put(map, 0, 0);
        }
        int[] noMaps = {-1, 5, Integer.MIN_VALUE, Integer.MAX_VALUE};
        for (int map : noMaps) {
            CHECK.badArgument("no map " + map, x, () -> x.remove(map, 0));
        }
        int[] noObjects = {-1, 9, 31, 32, Integer.MIN_VALUE, Integer.MAX_VALUE};
        for (int object : noObjects) {
            for (int map = 0; map < 5; map++) {
                int m = map;
                CHECK.badArgument("no object " + object, x, () -> x.remove(m, object));
            }
        }
        CHECK.badArgument("PLACES has no 8", x, () -> x.remove(Check.PLACES, 8));
        CHECK.same("PLACES has a 7", x.remove(Check.PLACES, 7), Check.NONE);
    }

    private static void takesAway(int map) {
        HoldMaps x = Check.with(4, 4, 6, 5);
        x.put(map, 0, 2);
        x.put(map, 3, 0);
        int time = x.count(3);
        CHECK.same("another key in map " + map, x.remove(map, 2), Check.NONE);
        boolean one = map == Check.IDENTITY;
        CHECK.same("an equal key in map " + map, x.remove(map, 1), one ? Check.NONE : 2);
        CHECK.same("the key in map " + map, x.remove(map, 0), one ? 2 : Check.NONE);
        CHECK.same("is away in map " + map, x.get(map, 0), Check.NONE);
        CHECK.same("the other stays in map " + map, Check.row(x, map), map == Check.PLACES ? "5=0" : "3=0");
        CHECK.same("no use of SOFT", x.count(3), map == Check.SOFT ? time + 1 : time);
        CHECK.same("objects stay", x.count(0), 4);
    }

    private static void rowsStay() {
        for (int map = 0; map < 5; map++) {
            HoldMaps x = Check.withNumbers(7);
            Check.putAll(x, map, 6, 0, 1, 2, 3, 4);
            String keys = Check.keys(x, map);
            int buckets = x.count(2);
            x.remove(map, 2);
            CHECK.same("the rest of map " + map, Check.keys(x, map), keys.replace("2 ", "").replace(" 2", ""));
            CHECK.same("buckets stay", x.count(2), buckets);
        }
        HoldMaps x = Check.withNumbers(7);
        Check.putAll(x, Check.SOFT, 6, 0, 1, 2);
        x.remove(Check.SOFT, 0);
        x.put(Check.SOFT, 0, 6);
        CHECK.same("comes anew", Check.keys(x, Check.SOFT), "1 2 0");
    }

    /** First slots: 0 and 16 have 0, 7 has 1, 14 has 2; they lie in 0, 1, 2 and 3. */
    private static void identityCloses() {
        HoldMaps x = Check.withNumbers(32);
        Check.putAll(x, Check.IDENTITY, 0, 0, 16, 7, 14);
        CHECK.same("as they came", Check.keys(x, Check.IDENTITY), "0 16 7 14");
        x.remove(Check.IDENTITY, 16);
        x.put(Check.IDENTITY, 16, 0);
        CHECK.same("7 and 14 moved up, so 16 comes behind", Check.keys(x, Check.IDENTITY), "0 7 14 16");

        HoldMaps y = Check.withNumbers(32);
        Check.putAll(y, Check.IDENTITY, 0, 0, 7, 16);
        y.remove(Check.IDENTITY, 0);
        CHECK.same("7 is in its own slot, 16 passes it", Check.keys(y, Check.IDENTITY), "16 7");
        y.put(Check.IDENTITY, 23, 0);
        CHECK.same("the slot of 16 is free", Check.keys(y, Check.IDENTITY), "16 7 23");
        y.remove(Check.IDENTITY, 7);
        CHECK.same("23 moved to slot 1", Check.keys(y, Check.IDENTITY), "16 23");
        y.put(Check.IDENTITY, 30, 0);
        CHECK.same("so slot 2 is free", Check.keys(y, Check.IDENTITY), "16 23 30");
    }

    /** First slots: 9 and 25 have 15, 2 and 18 have 14, 0 has 0. */
    private static void identityGoesRound() {
        HoldMaps x = Check.withNumbers(32);
        Check.putAll(x, Check.IDENTITY, 1, 9, 25, 0, 2, 18);
        CHECK.same("round the end", Check.keys(x, Check.IDENTITY), "25 0 18 2 9");
        x.remove(Check.IDENTITY, 9);
        CHECK.same("25 moves back over the end", Check.keys(x, Check.IDENTITY), "0 18 2 25");
        x.remove(Check.IDENTITY, 2);
        CHECK.same("18 moves to 14, 25 and 0 stay", Check.keys(x, Check.IDENTITY), "0 18 25");
        x.remove(Check.IDENTITY, 18);
        x.put(Check.IDENTITY, 9, 1);
        CHECK.same("behind 0", Check.keys(x, Check.IDENTITY), "0 9 25");
        CHECK.same("all are found", x.get(Check.IDENTITY, 0) + x.get(Check.IDENTITY, 9)
                + x.get(Check.IDENTITY, 25), 3);
    }
}
