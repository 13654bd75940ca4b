import java.util.ArrayList;
import java.util.Arrays;
import java.util.List;

/**
 * How IDENTITY's entries lie. A row does not tell which slots are free; so each run is made 16 times, each time one
 * slot further round, and the places where the row is cut at slot 0 tell where all entries lie.
 */
public final class TermsIdentityRowTest {
    private static final Check CHECK = new Check();

    /** 7 * 7 is 1 in 16, so the key whose first slot is s is 7 * s in 16, and the one 16 further. */
    private static int key(String name, int turn) {
        int slot = (Integer.parseInt(name.substring(0, name.length() - 1), 16) + turn) % 16;
        return 7 * slot % 16 + (name.endsWith("b") ? 16 : 0);
    }

    /** Puts 3a, say: the one key of two whose first slot is 3; or removes it: -3a. Then tells how they must lie. */
    private static void lie(String calls, String slots) {
        for (int turn = 0; turn < 16; turn++) {
            HoldMaps x = Check.withNumbers(32);
            for (String call : calls.split(" ")) {
                if (call.startsWith("-")) {
                    CHECK.same(call, x.remove(Check.IDENTITY, key(call.substring(1), turn)), 0);
                } else {
                    CHECK.same(call, x.put(Check.IDENTITY, key(call, turn), 0), Check.NONE);
                }
            }
            CHECK.same(calls + ", turned by " + turn, Check.keys(x, Check.IDENTITY), row(slots, turn));
        }
    }

    /** What lies in slots 0, 1, .., a point where a slot is free; turned, and told from slot 0 on. */
    private static String row(String slots, int turn) {
        String[] turned = new String[16];
        Arrays.fill(turned, ".");
        String[] names = slots.split(" ");
        for (int slot = 0; slot < names.length; slot++) {
            turned[(slot + turn) % 16] = names[slot];
        }
        List<String> keys = new ArrayList<>();
        for (String name : turned) {
            if (!name.equals(".")) {
                keys.add(String.valueOf(key(name, turn)));
            }
        }
        return String.join(" ", keys);
    }

    public static void main(String[] args) {
        CHECK.sentence("in 16 SLOTS, slot 0 first", TermsIdentityRowTest::slot0First);
        CHECK.sentence("a new one goes to the first free slot from its own on", TermsIdentityRowTest::firstFreeSlot);
        CHECK.sentence("(7 * number) % 16 of its key", TermsIdentityRowTest::ownSlot);
        CHECK.sentence("behind 15 comes 0", TermsIdentityRowTest::behind15Comes0);
        CHECK.sentence("at most 12 entries", TermsIdentityRowTest::atMost12);
        CHECK.sentence("When one goes, its slot is free", TermsIdentityRowTest::itsSlotIsFree);
        CHECK.sentence("as long as the next slot is not free", TermsIdentityRowTest::nextSlotIsFree);
        CHECK.sentence("the entry there moves to the free slot", TermsIdentityRowTest::moves);
        CHECK.sentence("which is its old one then", TermsIdentityRowTest::oldOneIsFree);
        CHECK.sentence("unless its own first slot lies behind the free one", TermsIdentityRowTest::liesBehind);
        CHECK.sentence("up to where it is", TermsIdentityRowTest::upToWhereItIs);
        CHECK.sentence("(going round)", TermsIdentityRowTest::goingRound);
        CHECK.end();
    }

    private static void slot0First() {
        lie("fa 0a 8a", "0a . . . . . . . 8a . . . . . . fa");
        lie("ba aa 9a 8a 7a 6a 5a 4a 3a 2a 1a 0a", "0a 1a 2a 3a 4a 5a 6a 7a 8a 9a aa ba");
    }

    private static void firstFreeSlot() {
        lie("0a 0b", "0a 0b");
        lie("0b 0a", "0b 0a");
        lie("0a 1a 0b", "0a 1a 0b");
        lie("1a 2a 0a 0b", "0a 1a 2a 0b");
        lie("0a 1a 3a 0b 1b", "0a 1a 0b 3a 1b");
    }

    /** Each two of the 32 numbers: they lie by their own slots, or the second one behind the first. */
    private static void ownSlot() {
        for (int a = 0; a < 32; a++) {
            for (int b = 0; b < 32; b++) {
                if (a != b) {
                    HoldMaps x = Check.withNumbers(32);
                    Check.putAll(x, Check.IDENTITY, 0, a, b);
                    int ofA = 7 * a % 16;
                    int ofB = 7 * b % 16 == ofA ? (ofA + 1) % 16 : 7 * b % 16;
                    CHECK.same("keys " + a + " and " + b, Check.keys(x, Check.IDENTITY),
                            ofA < ofB ? a + " " + b : b + " " + a);
                }
            }
        }
    }

    /** First slots: 9 and 25 have 15, 2 and 18 have 14, 0 has 0. */
    private static void behind15Comes0() {
        HoldMaps x = Check.withNumbers(32);
        Check.putAll(x, Check.IDENTITY, 0, 9, 25);
        CHECK.same("25 is in 0", Check.keys(x, Check.IDENTITY), "25 9");
        Check.putAll(x, Check.IDENTITY, 0, 2, 18);
        CHECK.same("18 is in 1", Check.keys(x, Check.IDENTITY), "25 18 2 9");
        x.put(Check.IDENTITY, 0, 0);
        CHECK.same("0 is in 2", Check.keys(x, Check.IDENTITY), "25 18 0 2 9");
        CHECK.same("all are found", x.remove(Check.IDENTITY, 0) + x.remove(Check.IDENTITY, 18)
                + x.remove(Check.IDENTITY, 25), 0);
    }

    private static void atMost12() {
        for (int turn = 0; turn < 16; turn++) {
            HoldMaps x = Check.withNumbers(32);
            for (int i = 0; i < 12; i++) {
                CHECK.same("one of twelve", x.put(Check.IDENTITY, (i + turn) % 32, 0), Check.NONE);
            }
            for (int i = 12; i < 32; i++) {
                int key = (i + turn) % 32;
                CHECK.badState("key " + key, () -> x.put(Check.IDENTITY, key, 0));
            }
            CHECK.same("an old key", x.put(Check.IDENTITY, turn, 1), 0);
            CHECK.same("twelve", x.size(Check.IDENTITY), 12);
        }
    }

    private static void itsSlotIsFree() {
        lie("0a -0a", ".");
        lie("0a -0a 0a", "0a");
        lie("0a 1a -0a 0b", "0b 1a");
        lie("0a 1a -1a 0b", "0a 0b");
        lie("0a 1a 2a -1a 0b", "0a 0b 2a");
    }

    private static void nextSlotIsFree() {
        lie("0a 2a -0a", ". . 2a");
        lie("0a 0b 3a 3b -0a", "0b . . 3a 3b");
        lie("0a 0b 3a 3b -0b 0b", "0a 0b . 3a 3b");
    }

    private static void moves() {
        lie("0a 0b -0a", "0b");
        lie("0a 0b -0a 0a", "0b 0a");
        lie("0a 1a 0b -1a", "0a 0b");
        lie("0a 1a 2a 0b -2a", "0a 1a 0b");
    }

    private static void oldOneIsFree() {
        lie("0a 0b 1a -0a", "0b 1a");
        lie("0a 0b 1a 1b 2a -0a", "0b 1a 1b 2a");
        lie("0a 0b 1a 1b 2a -0b", "0a 1a 1b 2a");
        lie("0a 0b 1a -0a 2a", "0b 1a 2a");
        lie("0a 0b 1a 1b 2a 2b 3a 3b 4a 4b 5a 5b -0a", "0b 1a 1b 2a 2b 3a 3b 4a 4b 5a 5b");
        lie("0a 0b 1a 1b 2a 2b 3a 3b 4a 4b 5a 5b -3a", "0a 0b 1a 1b 2a 2b 3b 4a 4b 5a 5b");
    }

    /** 2b lies in 4; 2 is behind the free slots 0 and 1, so it stays there when these are free. */
    private static void liesBehind() {
        lie("0a 1a 2a 3a 2b -0a", ". 1a 2a 3a 2b");
        lie("0a 1a 2a 3a 2b -1a", "0a . 2a 3a 2b");
        lie("0a 1a 2a 3a 2b -2a", "0a 1a 2b 3a");
        lie("0a 1a 2a 3a 2b -3a", "0a 1a 2a 2b");
        lie("0a 0b 2a 2b 1a -0a", "0b 1a 2a 2b");
    }

    private static void upToWhereItIs() {
        lie("0a 1a -0a", ". 1a");
        lie("0a 1a 0b -0a", "0b 1a");
        lie("0a 1a 2a 0b 3a -0a", "0b 1a 2a 3a");
        lie("0a 1a 2a 1b 0b -0a", "0b 1a 2a 1b");
        lie("0a 1a 2a 1b 0b -1a", "0a 1b 2a 0b");
    }

    /** The numbers as they are, where the row of slots ends: 9 and 25 have 15, 2 and 18 have 14, 0 has 0. */
    private static void goingRound() {
        HoldMaps x = Check.withNumbers(32);
        Check.putAll(x, Check.IDENTITY, 1, 9, 25, 0, 2, 18);
        CHECK.same("in 0, 1, 2, 14, 15", Check.keys(x, Check.IDENTITY), "25 0 18 2 9");
        x.remove(Check.IDENTITY, 9);
        CHECK.same("25 moves from 0 to 15, 0 to 0, 18 to 1", Check.keys(x, Check.IDENTITY), "0 18 2 25");
        x.remove(Check.IDENTITY, 2);
        CHECK.same("25 and 0 stay, 18 moves from 1 to 14", Check.keys(x, Check.IDENTITY), "0 18 25");
        x.put(Check.IDENTITY, 9, 1);
        CHECK.same("9 comes to 1", Check.keys(x, Check.IDENTITY), "0 9 18 25");
        lie("ea fa eb 0a fb -ea", "0a fb . . . . . . . . . . . . eb fa");
        lie("ea eb fa -ea", ". . . . . . . . . . . . . . eb fa");
    }
}
