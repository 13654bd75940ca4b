/** What the tests share: comparing, counting what is wrong, and telling a whole state as a text. */
final class Check {
    interface Call {
        long run();
    }

    static final int WEAK = 0;
    static final int SOFT = 1;
    static final int IDENTITY = 2;
    static final int PLACES = 3;
    static final int LATEST = 4;
    static final int NONE = HoldMaps.NONE;

    private static final Class<IllegalArgumentException> ARGUMENT = IllegalArgumentException.class;
    private static final Class<IllegalStateException> STATE = IllegalStateException.class;
    private static final Class<java.util.NoSuchElementException> ELEMENT = java.util.NoSuchElementException.class;

    private int wrong = 0;

    void same(String what, Object got, Object want) {
        if (!got.equals(want)) {
            wrong++;
            System.out.println(what + ": got " + got + ", due is " + want);
        }
    }

    void badArgument(String what, HoldMaps x, Call call) {
        refuses(what, x, ARGUMENT, call);
    }

    void badState(String what, HoldMaps x, Call call) {
        refuses(what, x, STATE, call);
    }

    void noElement(String what, HoldMaps x, Call call) {
        refuses(what, x, ELEMENT, call);
    }

    /** A call that is refused must throw just that exception, and change nothing. */
    private void refuses(String what, HoldMaps x, Class<?> due, Call call) {
        String before = state(x);
        same(what, answer(call), due.getSimpleName());
        same(what + " leaves the state", state(x), before);
    }

    /** What a call answers, or the name of what it throws. */
    static String answer(Call call) {
        try {
            return String.valueOf(call.run());
        } catch (RuntimeException e) {
            return e.getClass().getSimpleName();
        }
    }

    /** Makes objects with these values; on a new object they get the numbers 0, 1, .. */
    static HoldMaps with(int... values) {
        HoldMaps x = new HoldMaps();
        for (int value : values) {
            x.make(value);
        }
        return x;
    }

    /** The objects numbered 0 .. n - 1, with these numbers as their values. */
    static HoldMaps withNumbers(int n) {
        int[] values = new int[n];
        for (int i = 0; i < n; i++) {
            values[i] = i;
        }
        return with(values);
    }

    /** Puts keys with one value each, the same for all. */
    static void putAll(HoldMaps x, int map, int value, int... keys) {
        for (int key : keys) {
            x.put(map, key, value);
        }
    }

    /** The keys that a map's row has, by entry(). */
    static String keys(HoldMaps x, int map) {
        StringBuilder text = new StringBuilder();
        for (int k = 0; k < x.size(map); k++) {
            text.append(k == 0 ? "" : " ").append(x.entry(map, k, 0));
        }
        return text.toString();
    }

    /** The entries that a map's row has, by entry(), as key=value. */
    static String row(HoldMaps x, int map) {
        StringBuilder text = new StringBuilder();
        for (int k = 0; k < x.size(map); k++) {
            text.append(k == 0 ? "" : " ").append(x.entry(map, k, 0)).append('=').append(x.entry(map, k, 1));
        }
        return text.toString();
    }

    /** The numbers of the objects that are there. */
    static String living(HoldMaps x) {
        StringBuilder text = new StringBuilder();
        for (int object = 0; object < 32; object++) {
            if (x.value(object) != NONE) {
                text.append(text.length() == 0 ? "" : " ").append(object);
            }
        }
        return text.toString();
    }

    /** All that can be asked without leaving a trace. */
    static String state(HoldMaps x) {
        StringBuilder text = new StringBuilder();
        for (int object = 0; object < 32; object++) {
            if (x.value(object) != NONE) {
                text.append(object).append(':').append(x.value(object));
                text.append(isRoot(x, object) ? "!" : "").append(reference(x, object, 0));
                text.append('/').append(reference(x, object, 1)).append(' ');
            }
        }
        for (int map = 0; map < 5; map++) {
            text.append('[').append(row(x, map)).append(']');
        }
        for (int what = 0; what < 4; what++) {
            text.append(' ').append(x.count(what));
        }
        return text.toString();
    }

    static boolean isRoot(HoldMaps x, int object) {
        boolean is = x.root(object, true);
        x.root(object, is);
        return is;
    }

    static int reference(HoldMaps x, int object, int which) {
        int to = x.refer(object, which, NONE);
        x.refer(object, which, to);
        return to;
    }

    void end() {
        if (wrong != 0) {
            System.out.println(wrong + " wrong");
            System.exit(1);
        }
    }
}
