public final class Promise14CountTest {
    private static final Check CHECK = new Check();

    public static void main(String[] args) {
        CHECK.sentence("How many objects there are (0)", Promise14CountTest::objects);
        CHECK.sentence("how many were collected ever (1)", Promise14CountTest::collectedEver);
        CHECK.sentence("WEAK's buckets (2)", Promise14CountTest::buckets);
        CHECK.sentence("SOFT's TIME (3)", Promise14CountTest::time);
        CHECK.sentence("SOFT's TIME: a refused call is no put or get", Promise14CountTest::refusedCallsTakeNoTime);
        CHECK.sentence("NONE for others", Promise14CountTest::others);
        CHECK.sentence("An object is used for at most 512 calls", Promise14CountTest::lastCall);
        CHECK.end();
    }

    private static void objects() {
        HoldMaps x = new HoldMaps();
        CHECK.same("none", x.count(0), 0);
        for (int i = 0; i < 32; i++) {
            x.make(i);
            CHECK.same("made", x.count(0), i + 1);
        }
        Check.answer(() -> x.make(0));
        CHECK.same("a refused one does not count", x.count(0), 32);
        Check.rootAll(x, 0, 31);
        x.collect(0);
        CHECK.same("two are held", x.count(0), 2);
        x.root(0, false);
        x.root(31, false);
        x.collect(0);
        CHECK.same("none again", x.count(0), 0);
    }

    private static void collectedEver() {
        HoldMaps x = new HoldMaps();
        CHECK.same("none", x.count(1), 0);
        for (int time = 1; time <= 5; time++) {
            for (int i = 0; i < 32; i++) {
                x.make(i);
            }
            CHECK.same("not yet", x.count(1), 32 * (time - 1));
            x.collect(time % 4);
            CHECK.same("they are summed up", x.count(1), 32 * time);
        }
        x.collect(0);
        CHECK.same("no more", x.count(1), 160);
    }

    private static void buckets() {
        HoldMaps x = Check.withNumbers(32);
        StringBuilder counts = new StringBuilder().append(x.count(2)).append(' ');
        for (int key = 0; key < 32; key++) {
            x.put(Check.WEAK, key, 0);
            counts.append(x.count(2)).append(' ');
        }
        String due = "4 ".repeat(4) + "8 ".repeat(3) + "16 ".repeat(6) + "32 ".repeat(20);
        CHECK.same("for 0, 1, .. 32 entries", counts.toString(), due);
        for (int key = 0; key < 31; key++) {
            x.remove(Check.WEAK, key);
        }
        CHECK.same("they stay when entries are taken away", x.count(2), 32);
        x.collect(3);
        CHECK.same("they stay when entries are collected", x.size(Check.WEAK) + " " + x.count(2), "0 32");
    }

    private static void time() {
        HoldMaps x = Check.withNumbers(9);
        CHECK.same("none", x.count(3), 0);
        x.get(Check.SOFT, 0);
        CHECK.same("a get that finds nothing", x.count(3), 1);
        x.put(Check.SOFT, 0, 1);
        CHECK.same("a new entry", x.count(3), 2);
        x.put(Check.SOFT, 0, 2);
        CHECK.same("an old key", x.count(3), 3);
        x.get(Check.SOFT, 0);
        CHECK.same("a get", x.count(3), 4);
        for (int map = 0; map < Check.MAPS; map++) {
            if (map != Check.SOFT) {
                x.put(map, 0, 1);
                x.get(map, 0);
            }
        }
        CHECK.same("other maps", x.count(3), 4);
        x.remove(Check.SOFT, 0);
        x.walk(Check.SOFT);
        x.collect(3);
        CHECK.same("no put and no get", x.count(3), 4);
    }

    private static void refusedCallsTakeNoTime() {
        HoldMaps x = Check.withNumbers(2);
        x.put(Check.SOFT, 0, 1);
        Check.answer(() -> x.get(Check.SOFT, 2));
        Check.answer(() -> x.get(Check.SOFT, Check.NONE));
        Check.answer(() -> x.put(Check.SOFT, 2, 0));
        Check.answer(() -> x.put(Check.SOFT, 0, 2));
        Check.answer(() -> x.put(Check.SOFT, 1, Check.NONE));
        CHECK.same("one put", x.count(3), 1);
    }

    private static void others() {
        HoldMaps x = Check.withNumbers(9);
        for (int what : Check.outside(4)) {
            CHECK.same("count of " + what, x.count(what), Check.NONE);
        }
    }

    private static void lastCall() {
        HoldMaps x = new HoldMaps();
        x.make(99);
        for (int call = 2; call < 512; call++) {
            x.put(Check.SOFT, 0, 0);
        }
        CHECK.same("the 512th", x.count(3), 510);
    }
}
