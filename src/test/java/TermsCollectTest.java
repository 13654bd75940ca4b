/** The sentences under TO COLLECT. */
public final class TermsCollectTest {
    private static final Check CHECK = new Check();

    public static void main(String[] args) {
        CHECK.sentence("TO COLLECT with a PRESSURE p (0 .. 3)", TermsCollectTest::pressures);
        CHECK.sentence("(1) HELD are roots", TermsCollectTest::roots);
        CHECK.sentence("keys and values of IDENTITY and LATEST", TermsCollectTest::identityAndLatest);
        CHECK.sentence("values of PLACES and WEAK", TermsCollectTest::placesAndWeak);
        CHECK.sentence("keys of SOFT", TermsCollectTest::keysOfSoft);
        CHECK.sentence("and what held objects refer to", TermsCollectTest::whatTheyReferTo);
        CHECK.sentence("and so on", TermsCollectTest::andSoOn);
        CHECK.sentence("and so on: a ring", TermsCollectTest::rings);
        CHECK.sentence("(2) the one USED longest ago first", TermsCollectTest::usedLongestAgoFirst);
        CHECK.sentence("put or got", TermsCollectTest::putOrGot);
        CHECK.sentence("TIME is the number of puts and gets of SOFT so far", TermsCollectTest::time);
        CHECK.sentence("if its value is not held", TermsCollectTest::valueIsNotHeld);
        CHECK.sentence("TIME less its use is at least 12 - 4 * p, the entry goes", TermsCollectTest::atLeast);
        CHECK.sentence("otherwise its value is held", TermsCollectTest::otherwiseHeld);
        CHECK.sentence("otherwise held, and what that refers to, and so on", TermsCollectTest::otherwiseAndSoOn);
        CHECK.sentence("(3) WEAK's entries whose keys are not held go", TermsCollectTest::weakKeysNotHeld);
        CHECK.sentence("their values were held: they may be collected the next time", TermsCollectTest::theNextTime);
        CHECK.sentence("(4) Objects that are not held are COLLECTED", TermsCollectTest::areCollected);
        CHECK.sentence("they are there no more", TermsCollectTest::thereNoMore);
        CHECK.end();
    }

    private static void pressures() {
        for (int pressure = 0; pressure <= 3; pressure++) {
            CHECK.same("pressure " + pressure, Check.withNumbers(32).collect(pressure), 32);
        }
        HoldMaps x = new HoldMaps();
        CHECK.badArgument("too small", () -> x.collect(-1));
        CHECK.badArgument("too large", () -> x.collect(4));
    }

    private static void roots() {
        for (int root = 0; root < 32; root++) {
            HoldMaps x = Check.withNumbers(32);
            x.root(root, true);
            CHECK.same("all but one", x.collect(3) + " " + Check.living(x), "31 " + root);
        }
    }

    /** Puts 0 as a key with the value 1, lets 2 stand aside, and tells who lives after two times of collecting. */
    private static void holds(int map, String due, String dueNext) {
        HoldMaps x = Check.withNumbers(3);
        x.put(map, 0, 1);
        x.collect(3);
        CHECK.same("map " + map, Check.living(x), due);
        x.collect(3);
        CHECK.same("map " + map + ", the next time", Check.living(x), dueNext);
    }

    private static void identityAndLatest() {
        holds(Check.IDENTITY, "0 1", "0 1");
        holds(Check.LATEST, "0 1", "0 1");
        int[] most = {0, 0, 12, 0, 6};
        for (int map : new int[] {Check.IDENTITY, Check.LATEST}) {
            HoldMaps x = Check.withNumbers(32);
            for (int key = 0; key < most[map]; key++) {
                x.put(map, key, 31 - key);
            }
            CHECK.same("the most entries, map " + map, x.collect(3), 32 - 2 * most[map]);
            CHECK.same("all stay, map " + map, x.size(map), most[map]);
        }
    }

    private static void placesAndWeak() {
        holds(Check.PLACES, "1", "1");
        holds(Check.WEAK, "1", "");
        HoldMaps x = Check.withNumbers(32);
        for (int key = 0; key < 8; key++) {
            x.put(Check.PLACES, key, 31 - key);
        }
        CHECK.same("all places", x.collect(3) + " " + x.size(Check.PLACES), "24 8");
        HoldMaps y = Check.withNumbers(32);
        for (int key = 0; key < 16; key++) {
            y.put(Check.WEAK, key, 31 - key);
        }
        CHECK.same("sixteen of WEAK", y.collect(0) + " " + Check.living(y),
                "16 16 17 18 19 20 21 22 23 24 25 26 27 28 29 30 31");
    }

    private static void keysOfSoft() {
        holds(Check.SOFT, "0", "");
        HoldMaps x = Check.withNumbers(32);
        for (int key = 0; key < 16; key++) {
            x.put(Check.SOFT, key, 31 - key);
        }
        CHECK.same("sixteen keys, whose entries go", x.collect(3) + " " + Check.living(x),
                "16 0 1 2 3 4 5 6 7 8 9 10 11 12 13 14 15");
        CHECK.same("they are held no more", x.collect(3), 16);
    }

    /** Each thing that is held refers to 4 and 5, by one reference each. */
    private static void whatTheyReferTo() {
        for (int holder = 0; holder < 7; holder++) {
            HoldMaps x = Check.withNumbers(6);
            int[] maps = {Check.IDENTITY, Check.IDENTITY, Check.LATEST, Check.LATEST, Check.PLACES, Check.WEAK,
                Check.SOFT};
            boolean byKey = holder == 0 || holder == 2 || holder == 6;
            x.put(maps[holder], byKey ? 1 : 2, byKey ? 2 : 1);
            x.refer(1, 0, 4);
            x.refer(1, 1, 5);
            x.refer(3, 0, 0);
            x.collect(3);
            CHECK.same((byKey ? "a key" : "a value") + " of map " + maps[holder],
                    x.value(4) + " " + x.value(5) + " " + x.value(0) + " " + x.value(3), "4 5 -1 -1");
        }
    }

    /** A chain through all 32, with either reference, upwards and downwards. */
    private static void andSoOn() {
        for (int which = 0; which < 2; which++) {
            HoldMaps x = Check.withNumbers(32);
            HoldMaps y = Check.withNumbers(32);
            for (int i = 0; i < 31; i++) {
                x.refer(i, which, i + 1);
                y.refer(i + 1, which, i);
            }
            x.root(0, true);
            y.root(31, true);
            CHECK.same("upwards and downwards", x.collect(3) + " " + y.collect(3), "0 0");
            x.refer(15, which, Check.NONE);
            y.refer(15, which, Check.NONE);
            CHECK.same("behind a gap", x.collect(0) + " " + y.collect(0), "16 15");
        }
        HoldMaps tree = Check.withNumbers(31);
        for (int i = 0; i < 15; i++) {
            tree.refer(i, 0, 2 * i + 1);
            tree.refer(i, 1, 2 * i + 2);
        }
        tree.root(1, true);
        CHECK.same("a tree, by both references", tree.collect(0), 16);
    }

    private static void rings() {
        HoldMaps x = Check.withNumbers(5);
        x.refer(0, 0, 0);
        x.refer(1, 0, 2);
        x.refer(2, 1, 1);
        x.refer(3, 0, 4);
        x.refer(4, 0, 3);
        x.root(4, true);
        CHECK.same("rings that nobody holds", x.collect(0) + " " + Check.living(x), "3 3 4");
        HoldMaps y = Check.withNumbers(32);
        for (int i = 0; i < 32; i++) {
            y.refer(i, 0, (i + 1) % 32);
            y.refer(i, 1, (i + 31) % 32);
        }
        y.root(17, true);
        CHECK.same("a ring of all that one holds", y.collect(0), 0);
        y.root(17, false);
        CHECK.same("and that nobody holds", y.collect(0), 32);
    }

    /** Entries 0 -> 1, which came first, and 2 -> 3; one of the values refers to the other. */
    private static HoldMaps softPair(int from, int to) {
        HoldMaps x = Check.withNumbers(6);
        x.put(Check.SOFT, 0, 1);
        x.put(Check.SOFT, 2, 3);
        x.refer(from, 0, to);
        return x;
    }

    /** Of two that are looked at, the first one may hold the other's value; the second one comes too late for it. */
    private static void usedLongestAgoFirst() {
        HoldMaps x = softPair(1, 3);
        Check.age(x, 5, 3);
        x.collect(2);
        CHECK.same("the older one goes, and holds nothing", Check.row(x, Check.SOFT), "2=3");

        HoldMaps y = softPair(3, 1);
        Check.age(y, 5, 3);
        y.collect(2);
        CHECK.same("the younger one holds too late", Check.row(y, Check.SOFT) + " " + Check.living(y), "2=3 0 1 2 3");

        HoldMaps z = softPair(1, 3);
        Check.age(z, 5, 3);
        z.get(Check.SOFT, 0);
        z.collect(2);
        CHECK.same("not by the row: 2 was used before 0", Check.row(z, Check.SOFT) + " " + Check.living(z),
                "0=1 0 1 2 3");

        HoldMaps w = Check.withNumbers(6);
        Check.putAll(w, Check.SOFT, 5, 0, 1, 2);
        w.get(Check.SOFT, 0);
        Check.age(w, 3, 11);
        w.collect(0);
        CHECK.same("one value of three", Check.row(w, Check.SOFT), "0=5");
    }

    private static void putOrGot() {
        HoldMaps x = Check.with(0, 1, 2, 0, 8, 9);
        Check.putAll(x, Check.SOFT, 4, 0, 1, 2);
        Check.age(x, 5, 2);
        x.put(Check.SOFT, 3, 4);
        x.get(Check.SOFT, 2);
        x.collect(2);
        CHECK.same("an equal key put, and one got, are young", Check.keys(x, Check.SOFT), "0 2");
        HoldMaps y = softPair(5, 5);
        y.get(Check.SOFT, 0);
        y.remove(Check.SOFT, 0);
        y.put(Check.SOFT, 0, 1);
        y.collect(3);
        CHECK.same("none is too young for 3", y.size(Check.SOFT), 0);
    }

    /** Only what counts in TIME makes older: 11 such and any number of other calls leave the entry. */
    private static void time() {
        HoldMaps x = Check.withNumbers(8);
        x.put(Check.SOFT, 0, 1);
        Check.rootAll(x, 5, 6);
        for (int i = 0; i < 5; i++) {
            x.put(Check.SOFT, 5, 6);
            x.get(Check.SOFT, 6);
        }
        x.get(Check.SOFT, 5);
        for (int i = 0; i < 12; i++) {
            x.remove(Check.SOFT, 6);
            x.put(Check.LATEST, 5, 6);
            x.get(Check.WEAK, 5);
            x.walk(Check.SOFT);
            Check.answer(() -> x.get(Check.SOFT, 31));
            Check.answer(() -> x.put(Check.SOFT, 5, 31));
        }
        CHECK.same("TIME", x.count(3), 12);
        x.collect(0);
        CHECK.same("11 are too few", Check.row(x, Check.SOFT), "0=1 5=6");
        x.get(Check.SOFT, 6);
        x.collect(0);
        CHECK.same("12 are enough", Check.row(x, Check.SOFT), "5=6");
    }

    private static void valueIsNotHeld() {
        HoldMaps x = softPair(4, 1);
        x.root(4, true);
        x.root(3, true);
        Check.age(x, 5, 40);
        x.collect(3);
        CHECK.same("a root, and what a root refers to", Check.row(x, Check.SOFT), "0=1 2=3");
        x.root(3, false);
        x.refer(4, 0, Check.NONE);
        x.collect(3);
        CHECK.same("held no more", Check.row(x, Check.SOFT), "");

        HoldMaps y = softPair(0, 3);
        Check.age(y, 5, 40);
        y.collect(3);
        CHECK.same("keys of SOFT hold what they refer to", Check.row(y, Check.SOFT), "2=3");

        HoldMaps z = Check.withNumbers(6);
        z.put(Check.SOFT, 0, 0);
        z.collect(3);
        CHECK.same("a key that is its own value", Check.row(z, Check.SOFT), "0=0");
    }

    private static void atLeast() {
        for (int pressure = 0; pressure < 4; pressure++) {
            for (int age = 0; age < 16; age++) {
                HoldMaps x = Check.withNumbers(3);
                x.put(Check.SOFT, 0, 1);
                Check.age(x, 2, age);
                x.collect(pressure);
                boolean goes = age >= 12 - 4 * pressure;
                String what = "pressure " + pressure + ", age " + age;
                CHECK.same(what, Check.row(x, Check.SOFT) + " " + Check.living(x), goes ? " 0" : "0=1 0 1");
                CHECK.same(what + ", TIME", x.count(3), age + 1);
            }
        }
    }

    private static void otherwiseHeld() {
        HoldMaps x = softPair(5, 5);
        x.put(Check.WEAK, 1, 4);
        CHECK.same("only 5 goes", x.collect(2) + " " + Check.living(x), "1 0 1 2 3 4");
        CHECK.same("a value that is too young", Check.row(x, Check.SOFT), "0=1 2=3");
        CHECK.same("holds WEAK's key", Check.row(x, Check.WEAK), "1=4");

        HoldMaps y = Check.withNumbers(4);
        Check.putAll(y, Check.SOFT, 1, 0, 2);
        Check.age(y, 3, 3);
        y.collect(2);
        CHECK.same("one value of two entries: the older one goes", Check.row(y, Check.SOFT) + " " + Check.living(y),
                "2=1 0 1 2");
    }

    private static void otherwiseAndSoOn() {
        HoldMaps x = Check.withNumbers(32);
        x.put(Check.SOFT, 0, 1);
        for (int i = 1; i < 31; i++) {
            x.refer(i, i % 2, i + 1);
        }
        CHECK.same("a chain from a young value", x.collect(2), 0);
        CHECK.same("pressure 3 takes it", x.collect(3) + " " + Check.living(x), "31 0");

        HoldMaps y = Check.withNumbers(5);
        y.put(Check.SOFT, 0, 1);
        y.refer(1, 1, 2);
        y.refer(2, 0, 3);
        y.put(Check.WEAK, 3, 4);
        y.collect(2);
        CHECK.same("a chain to WEAK's key", Check.row(y, Check.WEAK), "3=4");
    }

    private static void weakKeysNotHeld() {
        HoldMaps x = Check.with(1, 2, 3, 1, 9);
        Check.putAll(x, Check.WEAK, 4, 0, 1, 2);
        Check.rootAll(x, 1, 3);
        x.collect(0);
        CHECK.same("an equal object does not hold a key", Check.row(x, Check.WEAK), "1=4");

        HoldMaps y = Check.withNumbers(32);
        for (int key = 0; key < 25; key++) {
            y.put(Check.WEAK, key, 31);
            y.root(key, key % 3 == 0);
        }
        y.collect(1);
        CHECK.same("the rest stays in its row", Check.keys(y, Check.WEAK), "0 3 6 9 12 15 18 21 24");
        CHECK.same("buckets stay", y.count(2), 32);

        HoldMaps z = Check.withNumbers(4);
        z.put(Check.WEAK, 0, 1);
        z.refer(1, 0, 0);
        z.put(Check.WEAK, 2, 2);
        CHECK.same("values that hold their own keys", z.collect(3) + " " + Check.row(z, Check.WEAK), "1 0=1 2=2");
        CHECK.same("they stay for ever", z.collect(3), 0);
    }

    private static void theNextTime() {
        HoldMaps x = Check.withNumbers(4);
        x.put(Check.WEAK, 0, 1);
        x.put(Check.WEAK, 1, 2);
        x.refer(2, 0, 3);
        CHECK.same("0 goes, its value 1 was held", x.collect(0) + " " + Check.row(x, Check.WEAK), "1 1=2");
        CHECK.same("1 goes the next time", x.collect(0) + " " + Check.row(x, Check.WEAK), "1 ");
        CHECK.same("2 and 3 go the time after", x.collect(0) + " " + Check.living(x), "2 ");
    }

    private static void areCollected() {
        HoldMaps x = new HoldMaps();
        CHECK.same("none are there", x.collect(0) + " " + x.count(1), "0 0");
        for (int i = 0; i < 32; i++) {
            x.make(i);
        }
        CHECK.same("all of 32", x.collect(0) + " " + Check.counts(x), "32 0 32 4 0");
        for (int i = 0; i < 32; i++) {
            x.make(i);
        }
        Check.rootAll(x, 0, 31);
        CHECK.same("all but the ends", x.collect(3) + " " + Check.counts(x), "30 2 62 4 0");
        CHECK.same("none is left", x.collect(3) + " " + Check.living(x), "0 0 31");
    }

    private static void thereNoMore() {
        HoldMaps x = Check.withNumbers(3);
        x.root(1, true);
        x.collect(0);
        CHECK.same("values", x.value(0) + " " + x.value(1) + " " + x.value(2), "-1 1 -1");
        CHECK.badArgument("root", () -> x.root(0, true) ? 1 : 0);
        CHECK.badArgument("refer", () -> x.refer(1, 0, 2));
        CHECK.badArgument("put", () -> x.put(Check.SOFT, 1, 2));
        CHECK.badArgument("get", () -> x.get(Check.SOFT, 2));
        CHECK.badArgument("remove", () -> x.remove(Check.SOFT, 0));
        CHECK.same("their numbers are free", x.make(8) + " " + x.make(9) + " " + x.make(10), "0 2 3");
    }
}
