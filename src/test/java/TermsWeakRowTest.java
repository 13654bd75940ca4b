/** How WEAK's entries lie. */
public final class TermsWeakRowTest {
    private static final Check CHECK = new Check();

    public static void main(String[] args) {
        CHECK.sentence("in BUCKETS, 4 at first", TermsWeakRowTest::fourAtFirst);
        CHECK.sentence("bucket 0 first", TermsWeakRowTest::bucket0First);
        CHECK.sentence("in each the one that came last first", TermsWeakRowTest::lastFirst);
        CHECK.sentence("the lowest bits of its HASH, as many as number the buckets", TermsWeakRowTest::lowestBits);
        CHECK.sentence("When a new entry has come", TermsWeakRowTest::onlyANewEntryDoubles);
        CHECK.sentence("there are more than three quarters as many entries as buckets",
                TermsWeakRowTest::moreThanThreeQuarters);
        CHECK.sentence("more than three quarters: of the entries that are there", TermsWeakRowTest::thatAreThere);
        CHECK.sentence("and fewer than 32 buckets", TermsWeakRowTest::fewerThan32);
        CHECK.sentence("all entries, in their row, are put into their new buckets", TermsWeakRowTest::inTheirRow);
        CHECK.sentence("each as if it came then", TermsWeakRowTest::asIfItCameThen);
        CHECK.end();
    }

    /** An empty WEAK with so many buckets: they stay when the entries that brought them have gone. */
    private static HoldMaps withBuckets(int buckets) {
        HoldMaps x = Check.withNumbers(13);
        int entries = buckets == 4 ? 0 : buckets * 3 / 8 + 1;
        for (int key = 0; key < entries; key++) {
            x.put(Check.WEAK, key, 0);
        }
        for (int key = 0; key < entries; key++) {
            x.remove(Check.WEAK, key);
        }
        CHECK.same("an empty map with " + buckets + " buckets", x.size(Check.WEAK) + " " + x.count(2), "0 " + buckets);
        return x;
    }

    private static void putNew(HoldMaps x, int... values) {
        for (int value : values) {
            x.put(Check.WEAK, x.make(value), 0);
        }
    }

    private static void fourAtFirst() {
        HoldMaps x = new HoldMaps();
        CHECK.same("none has come", x.count(2), 4);
        putNew(x, 7, 4, 3);
        CHECK.same("7 and 3 in bucket 3", Check.keyValues(x, Check.WEAK) + " of " + x.count(2), "4 3 7 of 4");
    }

    private static void bucket0First() {
        HoldMaps x = new HoldMaps();
        putNew(x, 3, 1, 0);
        CHECK.same("of 4", Check.keyValues(x, Check.WEAK), "0 1 3");
        HoldMaps y = withBuckets(8);
        putNew(y, 7, 0, 6, 1, 4, 3);
        CHECK.same("of 8", Check.keyValues(y, Check.WEAK), "0 1 3 4 6 7");
        HoldMaps z = withBuckets(16);
        putNew(z, 15, 0, 8, 7, 14, 1);
        CHECK.same("of 16", Check.keyValues(z, Check.WEAK), "0 1 7 8 14 15");
        HoldMaps w = withBuckets(32);
        putNew(w, 30, 0, 15, 17, 16, 31);
        CHECK.same("of 32: 17 is in 16, 16 in 17, 31 in 30, 30 in 31", Check.keyValues(w, Check.WEAK),
                "0 15 17 16 31 30");
    }

    private static void lastFirst() {
        HoldMaps x = withBuckets(8);
        putNew(x, 0, 8, 25, 34);
        CHECK.same("all in bucket 0", Check.keyValues(x, Check.WEAK), "34 25 8 0");
        int key = x.entry(Check.WEAK, 2, 0);
        x.put(Check.WEAK, key, 5);
        x.get(Check.WEAK, key);
        CHECK.same("one that is there does not move", Check.keyValues(x, Check.WEAK), "34 25 8 0");
        x.remove(Check.WEAK, key);
        CHECK.same("one went", Check.keyValues(x, Check.WEAK), "34 25 0");
        x.put(Check.WEAK, key, 5);
        CHECK.same("it came again", Check.keyValues(x, Check.WEAK), "8 34 25 0");
    }

    /** All pairs of values at each number of buckets; division by 16 is the shift by 4. */
    private static void lowestBits() {
        for (int buckets = 4; buckets <= 32; buckets *= 2) {
            for (int first = 0; first < 100; first++) {
                for (int second = 0; second < first; second++) {
                    HoldMaps x = withBuckets(buckets);
                    putNew(x, first, second);
                    boolean stays = (first ^ first / 16) % buckets < (second ^ second / 16) % buckets;
                    CHECK.same(first + " and " + second + " in " + buckets + " buckets",
                            Check.keyValues(x, Check.WEAK), stays ? first + " " + second : second + " " + first);
                }
            }
        }
    }

    private static void onlyANewEntryDoubles() {
        HoldMaps x = Check.withNumbers(8);
        Check.putAll(x, Check.WEAK, 7, 0, 1, 2);
        x.put(Check.WEAK, 1, 6);
        x.put(Check.WEAK, 2, 5);
        x.get(Check.WEAK, 0);
        x.get(Check.WEAK, 7);
        x.remove(Check.WEAK, 7);
        CHECK.same("old keys at three quarters", Check.row(x, Check.WEAK) + " of " + x.count(2), "0=7 1=6 2=5 of 4");
        x.put(Check.WEAK, 3, 7);
        CHECK.same("a new one", x.count(2), 8);
    }

    private static void moreThanThreeQuarters() {
        HoldMaps x = Check.withNumbers(32);
        int[] due = {4, 4, 4, 4, 8, 8, 8, 16, 16, 16, 16, 16, 16, 32, 32, 32, 32};
        for (int entries = 1; entries <= 16; entries++) {
            x.put(Check.WEAK, entries, 0);
            CHECK.same(entries + " entries", x.count(2), due[entries]);
        }
    }

    /** What went does not count any more, and what comes in its place makes no more than there were. */
    private static void thatAreThere() {
        HoldMaps x = Check.withNumbers(32);
        Check.putAll(x, Check.WEAK, 0, 0, 1, 2);
        for (int key = 3; key < 20; key++) {
            x.remove(Check.WEAK, key - 1);
            x.put(Check.WEAK, key, 0);
            CHECK.same("three of four", x.size(Check.WEAK) + " " + x.count(2), "3 4");
        }
        x.put(Check.WEAK, 20, 0);
        CHECK.same("four of four", x.size(Check.WEAK) + " " + x.count(2), "4 8");
        HoldMaps y = Check.withNumbers(8);
        Check.putAll(y, Check.WEAK, 7, 0, 1, 2);
        Check.rootAll(y, 0, 5, 6);
        y.collect(0);
        Check.putAll(y, Check.WEAK, 7, 5, 6);
        CHECK.same("two were collected", y.size(Check.WEAK) + " " + y.count(2), "3 4");
    }

    /** With 25 entries and more there are more than three quarters of 32, and no bucket is made or put anew. */
    private static void fewerThan32() {
        HoldMaps x = new HoldMaps();
        putNew(x, 0, 1, 2, 3, 4, 5, 6, 7, 8, 9, 10, 11, 12, 13, 14, 15, 16, 17, 18, 19, 20, 21, 22, 23);
        String rest = "8 9 10 11 12 13 14 15 17 16 19 18 21 20 23 22";
        CHECK.same("24", Check.keyValues(x, Check.WEAK) + " of " + x.count(2), "0 1 2 3 4 5 6 7 " + rest + " of 32");
        putNew(x, 34);
        CHECK.same("25", Check.keyValues(x, Check.WEAK) + " of " + x.count(2), "34 0 1 2 3 4 5 6 7 " + rest + " of 32");
        putNew(x, 35, 32, 33, 38, 39, 36, 37);
        CHECK.same("32", Check.keyValues(x, Check.WEAK) + " of " + x.count(2),
                "34 0 35 1 32 2 33 3 38 4 39 5 36 6 37 7 " + rest + " of 32");
    }

    /** The row before is 8 4 0 3, and so each bucket is turned round; so too with 16 and 32. */
    private static void inTheirRow() {
        HoldMaps x = new HoldMaps();
        putNew(x, 0, 4, 8);
        CHECK.same("before", Check.keyValues(x, Check.WEAK), "8 4 0");
        putNew(x, 3);
        CHECK.same("4 to 8", Check.keyValues(x, Check.WEAK), "0 8 3 4");

        HoldMaps y = withBuckets(8);
        putNew(y, 0, 8, 17, 25, 1, 2);
        CHECK.same("before", Check.keyValues(y, Check.WEAK), "25 17 8 0 1 2");
        putNew(y, 3);
        CHECK.same("8 to 16", Check.keyValues(y, Check.WEAK), "0 17 1 2 3 8 25");

        HoldMaps z = withBuckets(16);
        putNew(z, 0, 17, 34, 51, 68, 85, 1, 2, 3, 4, 5, 6);
        CHECK.same("before", Check.keyValues(z, Check.WEAK), "85 68 51 34 17 0 1 2 3 4 5 6");
        putNew(z, 7);
        CHECK.same("16 to 32", Check.keyValues(z, Check.WEAK), "0 34 68 1 2 3 4 5 6 7 17 51 85");
    }

    /** The new entry is one of all: it comes first into its old bucket, and then last of that bucket's. */
    private static void asIfItCameThen() {
        HoldMaps x = new HoldMaps();
        putNew(x, 1, 9, 3, 18);
        CHECK.same("18 is in 3 of 4, and of 8, where 3 comes behind it", Check.keyValues(x, Check.WEAK), "1 9 3 18");
        x.put(Check.WEAK, 2, 1);
        CHECK.same("keys keep their values", x.get(Check.WEAK, 2) + " " + x.get(Check.WEAK, 3), "1 0");
    }
}
