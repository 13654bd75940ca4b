/** How the entries of SOFT, PLACES and LATEST lie. */
public final class TermsOtherRowsTest {
    private static final Check CHECK = new Check();

    public static void main(String[] args) {
        CHECK.sentence("SOFT: in the order in which they came", TermsOtherRowsTest::softAsTheyCame);
        CHECK.sentence("PLACES: by number", TermsOtherRowsTest::placesByNumber);
        CHECK.sentence("LATEST: the one used longest ago first", TermsOtherRowsTest::usedLongestAgoFirst);
        CHECK.sentence("to put or get an entry uses it", TermsOtherRowsTest::putOrGetUses);
        CHECK.sentence("at most 6", TermsOtherRowsTest::atMost6);
        CHECK.sentence("when a new one makes more, the first one goes", TermsOtherRowsTest::firstOneGoes);
        CHECK.sentence("a new one: an old key makes no more", TermsOtherRowsTest::oldKeyMakesNoMore);
        CHECK.end();
    }

    private static void softAsTheyCame() {
        HoldMaps x = Check.withNumbers(32);
        Check.putAll(x, Check.SOFT, 0, 31, 1, 5, 0);
        CHECK.same("as they came", Check.keys(x, Check.SOFT), "31 1 5 0");
        x.put(Check.SOFT, 31, 4);
        x.get(Check.SOFT, 1);
        CHECK.same("a use moves none", Check.row(x, Check.SOFT), "31=4 1=0 5=0 0=0");
        x.remove(Check.SOFT, 1);
        x.put(Check.SOFT, 1, 0);
        CHECK.same("one came again", Check.keys(x, Check.SOFT), "31 5 0 1");
        x.remove(Check.SOFT, 31);
        x.remove(Check.SOFT, 1);
        CHECK.same("the ends went", Check.keys(x, Check.SOFT), "5 0");
        HoldMaps y = new HoldMaps();
        StringBuilder due = new StringBuilder();
        for (int i = 0; i < 32; i++) {
            y.make(99 - i);
            y.put(Check.SOFT, i, 0);
            due.append(i == 0 ? "" : " ").append(i);
        }
        CHECK.same("all 32", Check.keys(y, Check.SOFT), due.toString());
    }

    private static void placesByNumber() {
        HoldMaps x = Check.with(7, 0, 3, 6, 1, 5, 4, 2, 99);
        x.put(Check.PLACES, 0, 8);
        x.put(Check.PLACES, 1, 8);
        CHECK.same("both ends", Check.row(x, Check.PLACES), "0=8 7=8");
        Check.putAll(x, Check.PLACES, 8, 2, 3, 4, 5, 6, 7);
        CHECK.same("all eight", Check.keys(x, Check.PLACES), "0 1 2 3 4 5 6 7");
        x.put(Check.PLACES, 5, 0);
        CHECK.same("an old key does not move", x.entry(Check.PLACES, 5, 0) + "=" + x.entry(Check.PLACES, 5, 1), "5=0");
        x.remove(Check.PLACES, 1);
        x.remove(Check.PLACES, 0);
        x.remove(Check.PLACES, 6);
        CHECK.same("some went", Check.keys(x, Check.PLACES), "1 2 3 5 6");
    }

    private static void usedLongestAgoFirst() {
        HoldMaps x = Check.withNumbers(32);
        Check.putAll(x, Check.LATEST, 0, 31, 0, 7);
        CHECK.same("as they came", Check.keys(x, Check.LATEST), "31 0 7");
        x.get(Check.LATEST, 31);
        x.get(Check.LATEST, 0);
        CHECK.same("as they were used", Check.keys(x, Check.LATEST), "7 31 0");
        x.remove(Check.LATEST, 31);
        CHECK.same("one went", Check.keys(x, Check.LATEST), "7 0");
        x.put(Check.LATEST, 31, 0);
        CHECK.same("and came again", Check.keys(x, Check.LATEST), "7 0 31");
    }

    private static void putOrGetUses() {
        HoldMaps x = Check.with(10, 11, 12, 13, 14, 15, 10);
        Check.putAll(x, Check.LATEST, 0, 0, 1, 2, 3, 4, 5);
        x.put(Check.LATEST, 0, 1);
        CHECK.same("put of the first", Check.row(x, Check.LATEST), "1=0 2=0 3=0 4=0 5=0 0=1");
        x.get(Check.LATEST, 1);
        CHECK.same("get of the first", Check.keys(x, Check.LATEST), "2 3 4 5 0 1");
        x.put(Check.LATEST, 4, 0);
        CHECK.same("put in the middle", Check.keys(x, Check.LATEST), "2 3 5 0 1 4");
        x.get(Check.LATEST, 6);
        CHECK.same("get in the middle, by an equal key", Check.keys(x, Check.LATEST), "2 3 5 1 4 0");
        x.put(Check.LATEST, 6, 3);
        x.get(Check.LATEST, 0);
        CHECK.same("put and get of the last", Check.row(x, Check.LATEST), "2=0 3=0 5=0 1=0 4=0 0=3");
    }

    private static void atMost6() {
        HoldMaps x = Check.withNumbers(32);
        for (int key = 0; key < 32; key++) {
            x.put(Check.LATEST, key, 0);
            CHECK.same("after " + (key + 1), x.size(Check.LATEST), Math.min(key + 1, 6));
        }
        CHECK.same("the last six", Check.keys(x, Check.LATEST), "26 27 28 29 30 31");
    }

    private static void firstOneGoes() {
        HoldMaps x = Check.withNumbers(9);
        Check.putAll(x, Check.LATEST, 8, 0, 1, 2, 3, 4, 5);
        CHECK.same("six stay", Check.keys(x, Check.LATEST), "0 1 2 3 4 5");
        x.get(Check.LATEST, 0);
        CHECK.same("a new one answers NONE", x.put(Check.LATEST, 6, 8), Check.NONE);
        CHECK.same("1 was used longest ago", Check.keys(x, Check.LATEST), "2 3 4 5 0 6");
        x.put(Check.LATEST, 1, 8);
        CHECK.same("what went may come again", Check.keys(x, Check.LATEST), "3 4 5 0 6 1");
        x.collect(0);
        CHECK.same("what went is held no more", Check.living(x), "0 1 3 4 5 6 8");
    }

    private static void oldKeyMakesNoMore() {
        HoldMaps x = Check.with(10, 11, 12, 13, 14, 15, 10);
        Check.putAll(x, Check.LATEST, 0, 0, 1, 2, 3, 4, 5);
        CHECK.same("an equal key", x.put(Check.LATEST, 6, 1), 0);
        CHECK.same("none goes", Check.keys(x, Check.LATEST), "1 2 3 4 5 0");
        x.remove(Check.LATEST, 3);
        x.put(Check.LATEST, 3, 1);
        CHECK.same("a sixth again", Check.keys(x, Check.LATEST), "1 2 4 5 0 3");
    }
}
