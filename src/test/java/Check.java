import java.util.stream.IntStream;

/** What the tests share: a test for each sentence, comparing, and telling parts of a state as a text. */
final class Check {
    interface Call {
        long run();
    }

    static final int WEAK = 0;
    static final int SOFT = 1;
    static final int IDENTITY = 2;
    static final int PLACES = 3;
    static final int LATEST = 4;
    static final int MAPS = 5;
    static final int NONE = HoldMaps.NONE;

    private String sentence = "";
    private int wrong = 0;

    /** A test that is one sentence's own; whatever it finds wrong is told with the sentence before it. */
    void sentence(String words, Runnable test) {
        sentence = words;
        try {
            test.run();
        } catch (RuntimeException e) {
            tell("it threw " + e);
        }
    }

    void same(String what, Object got, Object due) {
        if (!got.equals(due)) {
            tell(what + ": got " + got + ", due is " + due);
        }
    }

    private void tell(String what) {
        wrong++;
        System.out.println("\"" + sentence + "\": " + what);
    }

    void badArgument(String what, Call call) {
        same(what, answer(call), "IllegalArgumentException");
    }

    void badState(String what, Call call) {
        same(what, answer(call), "IllegalStateException");
    }

    void noElement(String what, Call call) {
        same(what, answer(call), "NoSuchElementException");
    }

    /** What a call answers, or the name of what it throws. */
    static String answer(Call call) {
        try {
            return String.valueOf(call.run());
        } catch (RuntimeException e) {
            return e.getClass().getSimpleName();
        }
    }

    /** Numbers that are not 0 .. n - 1: next to it, far away, and such as a mask or a cast would bring back. */
    static int[] outside(int n) {
        int[] all = {Integer.MIN_VALUE, Integer.MIN_VALUE + 1, -65536, -256, -n, -2, -1, n, n + 1, 32, 64, 128, 256,
            65536, Integer.MAX_VALUE};
        return IntStream.of(all).filter(i -> i < 0 || i >= n).distinct().toArray();
    }

    /** Makes objects with these values; on a new object they get the numbers 0, 1, .. */
    static HoldMaps with(int... values) {
        HoldMaps x = new HoldMaps();
        for (int value : values) {
            x.make(value);
        }
        return x;
    }

    /** The objects numbered 0 .. n - 1, with these numbers as their values. */
    static HoldMaps withNumbers(int n) {
        return with(IntStream.range(0, n).toArray());
    }

    /** Puts keys with one value each, the same for all. */
    static void putAll(HoldMaps x, int map, int value, int... keys) {
        for (int key : keys) {
            x.put(map, key, value);
        }
    }

    /** Makes roots of all these. */
    static void rootAll(HoldMaps x, int... objects) {
        for (int object : objects) {
            x.root(object, true);
        }
    }

    /** Gets of SOFT that find nothing, so that all its entries grow older. */
    static void age(HoldMaps x, int noKey, int times) {
        for (int i = 0; i < times; i++) {
            x.get(SOFT, noKey);
        }
    }

    /** The keys that a map's row has, by entry(). */
    static String keys(HoldMaps x, int map) {
        StringBuilder text = new StringBuilder();
        for (int k = 0; k < x.size(map); k++) {
            text.append(k == 0 ? "" : " ").append(x.entry(map, k, 0));
        }
        return text.toString();
    }

    /** The VALUES of the keys that a map's row has. */
    static String keyValues(HoldMaps x, int map) {
        StringBuilder text = new StringBuilder();
        for (int k = 0; k < x.size(map); k++) {
            text.append(k == 0 ? "" : " ").append(x.value(x.entry(map, k, 0)));
        }
        return text.toString();
    }

    /** The entries that a map's row has, by entry(), as key=value. */
    static String row(HoldMaps x, int map) {
        StringBuilder text = new StringBuilder();
        for (int k = 0; k < x.size(map); k++) {
            text.append(k == 0 ? "" : " ").append(x.entry(map, k, 0)).append('=').append(x.entry(map, k, 1));
        }
        return text.toString();
    }

    /** The numbers of the objects that are there. */
    static String living(HoldMaps x) {
        StringBuilder text = new StringBuilder();
        for (int object = 0; object < 32; object++) {
            if (x.value(object) != NONE) {
                text.append(text.length() == 0 ? "" : " ").append(object);
            }
        }
        return text.toString();
    }

    static String counts(HoldMaps x) {
        return x.count(0) + " " + x.count(1) + " " + x.count(2) + " " + x.count(3);
    }

    /** What the steps of a map answer, with the exception that ends them. */
    static String steps(HoldMaps x, int map) {
        StringBuilder text = new StringBuilder();
        String step = answer(() -> x.step(map));
        for (int i = 0; i < 40 && !step.endsWith("Exception"); i++) {
            text.append(step).append(' ');
            step = answer(() -> x.step(map));
        }
        return text.append(step).toString();
    }

    static boolean isRoot(HoldMaps x, int object) {
        boolean is = x.root(object, true);
        x.root(object, is);
        return is;
    }

    static int reference(HoldMaps x, int object, int which) {
        int to = x.refer(object, which, NONE);
        x.refer(object, which, to);
        return to;
    }

    void end() {
        if (wrong != 0) {
            System.out.println(wrong + " wrong");
            System.exit(1);
        }
    }
}
