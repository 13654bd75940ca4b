public final class Promise12CollectTest {
    private static final Check CHECK = new Check();

    public static void main(String[] args) {
        wrongPressures();
        chainsAreHeld();
        mapsHold();
        softPatience();
        softOldestFirst();
        softValuesHold();
        weakKeys();
        weakValueThatHoldsItsKey();
        weakAfterSoft();
        againAndAgain();
        CHECK.end();
    }

    private static void wrongPressures() {
        HoldMaps x = Check.withNumbers(3);
        int[] wrong = {-1, 4, Integer.MIN_VALUE, Integer.MAX_VALUE};
        for (int pressure : wrong) {
            CHECK.badArgument("pressure " + pressure, x, () -> x.collect(pressure));
        }
        CHECK.same("all go", x.collect(0), 3);
        CHECK.same("none is left", x.collect(0), 0);
    }

    private static void chainsAreHeld() {
        HoldMaps x = Check.withNumbers(32);
        for (int i = 0; i < 31; i++) {
            x.refer(i, i % 2, i + 1);
        }
        x.refer(31, 0, 16);
        x.root(16, true);
        CHECK.same("what is before the root goes", x.collect(3), 16);
        CHECK.same("the chain behind it stays", x.count(0) + " " + x.value(31) + " " + x.value(15), "16 31 -1");
        x.root(16, false);
        CHECK.same("a ring that nobody holds", x.collect(0), 16);

        HoldMaps y = Check.withNumbers(5);
        y.refer(0, 0, 1);
        y.refer(0, 1, 2);
        y.refer(2, 1, 3);
        y.root(0, true);
        CHECK.same("both references", y.collect(0), 1);
        CHECK.same("four stay", Check.living(y), "0 1 2 3");
    }

    /** The key is 0, the value 1; 2 refers from the key, 3 from the value. */
    private static void mapsHold() {
        String[] due = {"1 3", "0 2", "0 1 2 3", "1 3", "0 1 2 3"};
        for (int map = 0; map < 5; map++) {
            HoldMaps x = Check.withNumbers(5);
            x.put(map, 0, 1);
            x.refer(0, 0, 2);
            x.refer(1, 1, 3);
            x.collect(3);
            CHECK.same("what map " + map + " holds", Check.living(x), due[map]);
            boolean goes = map == Check.WEAK || map == Check.SOFT;
            CHECK.same("entries of map " + map, x.size(map), goes ? 0 : 1);
            x.collect(3);
            CHECK.same("the next time, map " + map, Check.living(x), goes ? "" : due[map]);
        }
    }

    private static void softPatience() {
        for (int pressure = 0; pressure < 4; pressure++) {
            int patience = 12 - 4 * pressure;
            for (int age = 0; age < 14; age++) {
                HoldMaps x = Check.withNumbers(3);
                x.put(Check.SOFT, 0, 1);
                for (int i = 0; i < age; i++) {
                    x.get(Check.SOFT, 2);
                }
                x.collect(pressure);
                String what = "pressure " + pressure + ", age " + age;
                CHECK.same(what, Check.row(x, Check.SOFT), age >= patience ? "" : "0=1");
                CHECK.same(what, Check.living(x), age >= patience ? "0" : "0 1");
                CHECK.same("TIME stays", x.count(3), age + 1);
            }
        }
        HoldMaps x = Check.withNumbers(3);
        x.put(Check.SOFT, 0, 1);
        x.root(1, true);
        x.collect(3);
        CHECK.same("a value that is held", Check.row(x, Check.SOFT), "0=1");
    }

    /** 0 -> 1 came first, 2 -> 3 later; the older one's value may hold the younger one's, not the other way. */
    private static void softOldestFirst() {
        HoldMaps x = softPair(1, 3);
        x.collect(2);
        CHECK.same("both are old, so both go", Check.row(x, Check.SOFT), "");

        HoldMaps y = softPair(1, 3);
        y.get(Check.SOFT, 0);
        y.collect(2);
        CHECK.same("the one used longest ago is 2 now", Check.row(y, Check.SOFT), "0=1");

        HoldMaps z = softPair(3, 1);
        z.get(Check.SOFT, 0);
        z.root(3, true);
        z.collect(3);
        CHECK.same("a held value holds the other", Check.row(z, Check.SOFT), "0=1 2=3");

        HoldMaps w = softPair(1, 3);
        w.put(Check.SOFT, 2, 3);
        w.refer(4, 0, 1);
        w.root(4, true);
        w.collect(3);
        CHECK.same("held from outside, and so on", Check.row(w, Check.SOFT), "0=1 2=3");
    }

    private static HoldMaps softPair(int from, int to) {
        HoldMaps x = Check.withNumbers(6);
        x.put(Check.SOFT, 0, 1);
        x.put(Check.SOFT, 2, 3);
        x.refer(from, 0, to);
        for (int i = 0; i < 6; i++) {
            x.get(Check.SOFT, 5);
        }
        return x;
    }

    /** A key of SOFT refers to a value of SOFT: keys are held before entries are looked at. */
    private static void softValuesHold() {
        HoldMaps x = softPair(2, 1);
        x.collect(3);
        CHECK.same("a key holds a value", Check.row(x, Check.SOFT), "0=1");
        CHECK.same("keys of gone entries go the next time", Check.living(x), "0 1 2");
        x.collect(3);
        CHECK.same("now 2 is gone, and 1 with it", Check.living(x), "0");
        x.collect(3);
        CHECK.same("and now the last key", Check.living(x), "");

        HoldMaps y = Check.withNumbers(4);
        y.put(Check.SOFT, 0, 1);
        y.put(Check.SOFT, 2, 1);
        for (int i = 0; i < 7; i++) {
            y.get(Check.SOFT, 3);
        }
        y.get(Check.SOFT, 0);
        y.collect(2);
        CHECK.same("a value of two entries", Check.row(y, Check.SOFT) + " " + Check.living(y), "0=1 0 1 2");
    }

    private static void weakKeys() {
        HoldMaps x = Check.with(1, 2, 3, 1, 9);
        Check.putAll(x, Check.WEAK, 4, 0, 1, 2);
        x.root(1, true);
        x.root(3, true);
        CHECK.same("keys that nobody holds", x.collect(0), 2);
        CHECK.same("an equal object does not hold a key", Check.row(x, Check.WEAK), "1=4");
        CHECK.same("equal objects", x.get(Check.WEAK, 3), Check.NONE);

        HoldMaps y = Check.with(1, 1, 9);
        y.put(Check.WEAK, 0, 2);
        y.put(Check.WEAK, 1, 2);
        y.root(1, true);
        y.collect(0);
        CHECK.same("the old key counts, which is gone", Check.row(y, Check.WEAK) + Check.living(y), "1 2");
        y.collect(0);
        CHECK.same("its value goes the next time", Check.living(y), "1");

        HoldMaps z = Check.withNumbers(32);
        for (int key = 0; key < 25; key++) {
            z.put(Check.WEAK, key, 31);
            z.root(key, key % 3 == 0);
        }
        z.collect(1);
        CHECK.same("the rest stays in its row", Check.keys(z, Check.WEAK), "0 3 6 9 12 15 18 21 24");
        CHECK.same("buckets stay", z.count(2), 32);
    }

    private static void weakValueThatHoldsItsKey() {
        HoldMaps x = Check.withNumbers(4);
        x.put(Check.WEAK, 0, 1);
        x.refer(1, 0, 0);
        x.put(Check.WEAK, 2, 2);
        CHECK.same("one is held by nobody", x.collect(3), 1);
        CHECK.same("they stay for ever", x.size(Check.WEAK) + " " + x.collect(3) + " " + Check.living(x), "2 0 0 1 2");
    }

    private static void weakAfterSoft() {
        HoldMaps x = Check.withNumbers(4);
        x.put(Check.SOFT, 0, 1);
        x.put(Check.WEAK, 1, 2);
        x.collect(2);
        CHECK.same("a kept soft value holds a weak key", Check.row(x, Check.WEAK), "1=2");
        x.collect(3);
        CHECK.same("it holds it no more", Check.row(x, Check.WEAK) + " " + Check.living(x), " 0 2");
    }

    private static void againAndAgain() {
        HoldMaps x = Check.withNumbers(32);
        for (int i = 0; i < 31; i++) {
            x.refer(i, 0, i + 1);
        }
        x.root(0, true);
        for (int i = 0; i < 40; i++) {
            CHECK.same("all are held, time " + i, x.collect(i % 4), 0);
        }
        x.refer(15, 0, Check.NONE);
        CHECK.same("the half behind the gap", x.collect(0) + " " + x.count(0) + " " + x.count(1), "16 16 16");
    }
}
