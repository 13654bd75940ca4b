/** Long runs of calls, the same ones each time, on the program and on the model. */
public final class ModelTest {
    private static final int RUNS = 8000;
    /** More are not promised. */
    private static final int CALLS = 512;
    /** So many leave room to look at the whole state. */
    private static final int CALLS_BEFORE_STATE = 250;

    private final HoldMaps program = new HoldMaps();
    private final Model model = new Model();
    private final int taste;
    private long seed;
    private int calls = 0;

    private ModelTest(int run) {
        seed = run * 7919L + 13;
        taste = run / 2 % 6;
    }

    public static void main(String[] args) {
        Check check = new Check();
        for (int run = 0; run < RUNS; run++) {
            new ModelTest(run).go(check, run);
        }
        check.end();
    }

    private void go(Check check, int run) {
        boolean looksAtState = run % 2 == 0;
        int most = looksAtState ? CALLS_BEFORE_STATE : CALLS;
        String wrong = null;
        while (calls < most && wrong == null) {
            wrong = oneCall();
        }
        if (looksAtState && wrong == null) {
            wrong = sameState();
        }
        if (wrong != null) {
            check.same("run " + run + ", call " + calls, wrong, "the same answers");
        }
        check.same("calls of run " + run, calls <= CALLS, true);
    }

    private int random(int bound) {
        seed = seed * 6364136223846793005L + 1442695040888963407L;
        return (int) ((seed >>> 33) % bound);
    }

    /** Mostly what is there, now and then something wrong. */
    private int object() {
        return random(40) == 0 ? random(40) - 4 : random(32);
    }

    /** A run of taste 0 .. 4 is about that map first of all. */
    private int map() {
        if (random(60) == 0) {
            return random(8) - 2;
        }
        return taste < 5 && random(3) > 0 ? taste : random(5);
    }

    private int value() {
        int[] bounds = {100, 10, 100, 9, 20, 50};
        return random(60) == 0 ? random(140) - 20 : random(bounds[taste]);
    }

    private String oneCall() {
        int a = object();
        int b = object();
        int map = map();
        switch (random(24)) {
            case 0: case 1: case 2: case 3: case 4: {
                int value = value();
                return compare("make " + value, () -> program.make(value), () -> model.make(value));
            }
            case 5: case 6: {
                int which = random(30) == 0 ? random(5) - 1 : random(2);
                int to = random(4) == 0 ? -1 : b;
                return compare("refer " + a + " " + which + " " + to,
                        () -> program.refer(a, which, to), () -> model.refer(a, which, to));
            }
            case 7: case 8: {
                boolean is = random(2) == 0;
                return compare("root " + a + " " + is,
                        () -> program.root(a, is) ? 1 : 0, () -> model.root(a, is));
            }
            case 9: case 10: case 11: case 12: case 13: case 14:
                return compare("put " + map + " " + a + " " + b,
                        () -> program.put(map, a, b), () -> model.put(map, a, b));
            case 15: case 16:
                return compare("get " + map + " " + a, () -> program.get(map, a), () -> model.get(map, a));
            case 17:
                return compare("remove " + map + " " + a, () -> program.remove(map, a), () -> model.remove(map, a));
            case 18:
                return compare("walk " + map, () -> {
                    program.walk(map);
                    return 0;
                }, () -> model.walk(map));
            case 19: case 20: case 21:
                return compare("step " + map, () -> program.step(map), () -> model.step(map));
            case 22:
                return random(3) == 0 ? collect() : look(map);
            default:
                return random(2) == 0 ? look(map)
                        : compare("value " + a, () -> program.value(a), () -> model.value(a));
        }
    }

    private String collect() {
        int pressure = random(20) == 0 ? random(7) - 2 : random(4);
        return compare("collect " + pressure, () -> program.collect(pressure), () -> model.collect(pressure));
    }

    private String look(int map) {
        int k = random(6) == 0 ? random(40) - 4 : random(Math.max(1, model.size(map)));
        int what = random(20) == 0 ? random(6) - 1 : random(2);
        switch (random(6)) {
            case 0:
                return compare("size " + map, () -> program.size(map), () -> model.size(map));
            case 1:
                return compare("count " + k % 5, () -> program.count(k % 5), () -> model.count(k % 5));
            default:
                return compare("entry " + map + " " + k + " " + what,
                        () -> program.entry(map, k, what), () -> model.entry(map, k, what));
        }
    }

    private String sameState() {
        String wrong = null;
        for (int what = -1; what < 5 && wrong == null; what++) {
            int w = what;
            wrong = compare("count " + w, () -> program.count(w), () -> model.count(w));
        }
        for (int object = -1; object < 33 && wrong == null; object++) {
            int o = object;
            wrong = compare("value " + o, () -> program.value(o), () -> model.value(o));
        }
        for (int map = -1; map < 6 && wrong == null; map++) {
            wrong = sameRow(map);
        }
        return wrong;
    }

    private String sameRow(int map) {
        String wrong = compare("size " + map, () -> program.size(map), () -> model.size(map));
        for (int k = -1; k <= model.size(map) && wrong == null; k++) {
            for (int what = 0; what < 2 && wrong == null; what++) {
                int at = k;
                int w = what;
                wrong = compare("entry " + map + " " + at + " " + w,
                        () -> program.entry(map, at, w), () -> model.entry(map, at, w));
            }
        }
        return wrong;
    }

    private String compare(String what, Check.Call program, Check.Call model) {
        calls++;
        String got = Check.answer(program);
        String due = Check.answer(model);
        return got.equals(due) ? null : what + " answered " + got + ", the model " + due;
    }
}
