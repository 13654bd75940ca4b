import java.util.ArrayList;
import java.util.Comparator;
import java.util.HashSet;
import java.util.LinkedHashMap;
import java.util.LinkedList;
import java.util.List;
import java.util.Map;
import java.util.NoSuchElementException;
import java.util.Set;
import java.util.TreeMap;

/** The document once more, with the Java library and by other ways than the program's. */
final class Model {
    static final class Thing {
        int value;
        boolean root;
        final Thing[] to = new Thing[2];
    }

    static final class Pair {
        Thing key;
        int place;
        Thing value;
        int use;
    }

    private final TreeMap<Integer, Thing> things = new TreeMap<>();
    private List<LinkedList<Pair>> weak = buckets(4);
    private final LinkedHashMap<Integer, Pair> soft = new LinkedHashMap<>();
    private final Pair[] slots = new Pair[16];
    private final TreeMap<Integer, Pair> places = new TreeMap<>();
    private final LinkedHashMap<Integer, Pair> latest = new LinkedHashMap<>(16, 0.75f, true);
    private final List<List<Pair>> walkedRows = new ArrayList<>();
    private final int[] walked = new int[5];
    private final boolean[] broken = new boolean[5];
    private int time;
    private int collected;

    Model() {
        for (int map = 0; map < 5; map++) {
            walkedRows.add(null);
        }
    }

    private static List<LinkedList<Pair>> buckets(int n) {
        List<LinkedList<Pair>> all = new ArrayList<>();
        for (int i = 0; i < n; i++) {
            all.add(new LinkedList<>());
        }
        return all;
    }

    private int numberOf(Thing thing) {
        for (Map.Entry<Integer, Thing> e : things.entrySet()) {
            if (e.getValue() == thing) {
                return e.getKey();
            }
        }
        return -1;
    }

    private static void argument(boolean good) {
        if (!good) {
            throw new IllegalArgumentException();
        }
    }

    private static void state(boolean good) {
        if (!good) {
            throw new IllegalStateException();
        }
    }

    private static void element(boolean good) {
        if (!good) {
            throw new NoSuchElementException();
        }
    }

    int make(int value) {
        argument(value >= 0 && value <= 99);
        state(things.size() < 32);
        int number = 0;
        while (things.containsKey(number)) {
            number++;
        }
        Thing thing = new Thing();
        thing.value = value;
        things.put(number, thing);
        return number;
    }

    int refer(int object, int which, int to) {
        argument(things.containsKey(object) && (which == 0 || which == 1) && (to == -1 || things.containsKey(to)));
        Thing thing = things.get(object);
        int before = numberOf(thing.to[which]);
        thing.to[which] = things.get(to);
        return before;
    }

    int root(int object, boolean is) {
        argument(things.containsKey(object));
        boolean before = things.get(object).root;
        things.get(object).root = is;
        return before ? 1 : 0;
    }

    /** A map's row, made anew from how its entries lie. */
    private List<Pair> row(int map) {
        List<Pair> row = new ArrayList<>();
        switch (map) {
            case 0 -> weak.forEach(row::addAll);
            case 1 -> row.addAll(soft.values());
            case 2 -> {
                for (Pair pair : slots) {
                    if (pair != null) {
                        row.add(pair);
                    }
                }
            }
            case 3 -> row.addAll(places.values());
            default -> row.addAll(latest.values());
        }
        return row;
    }

    private void checkKey(int map, int key) {
        argument(map >= 0 && map < 5 && things.containsKey(key));
        argument(map != 3 || things.get(key).value <= 7);
    }

    private static int hash(Thing key) {
        return key.value ^ (key.value >> 4);
    }

    private int firstSlot(Pair pair) {
        return 7 * numberOf(pair.key) % 16;
    }

    private Pair find(int map, Thing key) {
        for (Pair pair : row(map)) {
            if (map == 2 ? pair.key == key : pair.place == key.value) {
                return pair;
            }
        }
        return null;
    }

    int put(int map, int key, int value) {
        checkKey(map, key);
        argument(things.containsKey(value));
        Thing keyThing = things.get(key);
        Pair old = find(map, keyThing);
        state(map != 2 || old != null || row(2).size() < 12);
        time += map == 1 ? 1 : 0;
        if (old != null) {
            int before = numberOf(old.value);
            old.value = things.get(value);
            use(map, old);
            return before;
        }
        Pair pair = new Pair();
        pair.key = map == 3 ? null : keyThing;
        pair.place = keyThing.value;
        pair.value = things.get(value);
        pair.use = time;
        come(map, pair);
        broken[map] = true;
        return -1;
    }

    private void come(int map, Pair pair) {
        switch (map) {
            case 0 -> comeToWeak(pair);
            case 1 -> soft.put(pair.key.value, pair);
            case 2 -> {
                int slot = firstSlot(pair);
                while (slots[slot] != null) {
                    slot = slot == 15 ? 0 : slot + 1;
                }
                slots[slot] = pair;
            }
            case 3 -> places.put(pair.place, pair);
            default -> {
                latest.put(pair.key.value, pair);
                if (latest.size() == 7) {
                    latest.remove(latest.keySet().iterator().next());
                }
            }
        }
    }

    private void comeToWeak(Pair pair) {
        weak.get(hash(pair.key) % weak.size()).addFirst(pair);
        List<Pair> row = row(0);
        if (row.size() > 0.75 * weak.size() && weak.size() < 32) {
            weak = buckets(2 * weak.size());
            for (Pair each : row) {
                weak.get(hash(each.key) % weak.size()).addFirst(each);
            }
        }
    }

    private void use(int map, Pair pair) {
        if (map == 1) {
            pair.use = time;
        }
        if (map == 4) {
            List<Pair> row = row(4);
            if (row.get(row.size() - 1) != pair) {
                broken[4] = true;
            }
            latest.get(pair.key.value);
        }
    }

    int get(int map, int key) {
        checkKey(map, key);
        time += map == 1 ? 1 : 0;
        Pair pair = find(map, things.get(key));
        if (pair == null) {
            return -1;
        }
        use(map, pair);
        return numberOf(pair.value);
    }

    int remove(int map, int key) {
        checkKey(map, key);
        Pair pair = find(map, things.get(key));
        if (pair == null) {
            return -1;
        }
        go(map, pair);
        return numberOf(pair.value);
    }

    private void go(int map, Pair pair) {
        broken[map] = true;
        switch (map) {
            case 0 -> weak.forEach(bucket -> bucket.remove(pair));
            case 1 -> soft.remove(pair.key.value);
            case 2 -> goFromSlots(pair);
            case 3 -> places.remove(pair.place);
            default -> latest.remove(pair.key.value);
        }
    }

    private void goFromSlots(Pair pair) {
        int free = 0;
        while (slots[free] != pair) {
            free++;
        }
        slots[free] = null;
        int at = (free + 1) % 16;
        while (slots[at] != null) {
            Set<Integer> between = new HashSet<>();
            for (int s = free; s != at; ) {
                s = (s + 1) % 16;
                between.add(s);
            }
            if (!between.contains(firstSlot(slots[at]))) {
                slots[free] = slots[at];
                slots[at] = null;
                free = at;
            }
            at = (at + 1) % 16;
        }
    }

    int size(int map) {
        return map < 0 || map > 4 ? -1 : row(map).size();
    }

    private int keyOf(int map, Pair pair) {
        return map == 3 ? pair.place : numberOf(pair.key);
    }

    int entry(int map, int k, int what) {
        element(map >= 0 && map <= 4 && (what == 0 || what == 1) && k >= 0 && k < size(map));
        Pair pair = row(map).get(k);
        return what == 0 ? keyOf(map, pair) : numberOf(pair.value);
    }

    int walk(int map) {
        argument(map >= 0 && map <= 4);
        walkedRows.set(map, row(map));
        walked[map] = 0;
        broken[map] = false;
        return 0;
    }

    int step(int map) {
        argument(map >= 0 && map <= 4 && walkedRows.get(map) != null);
        state(!broken[map]);
        element(walked[map] < walkedRows.get(map).size());
        return keyOf(map, walkedRows.get(map).get(walked[map]++));
    }

    private void hold(Set<Thing> held, Thing thing) {
        if (thing != null && held.add(thing)) {
            hold(held, thing.to[0]);
            hold(held, thing.to[1]);
        }
    }

    int collect(int pressure) {
        argument(pressure >= 0 && pressure <= 3);
        Set<Thing> held = new HashSet<>();
        things.values().stream().filter(thing -> thing.root).forEach(thing -> hold(held, thing));
        for (int map = 0; map < 5; map++) {
            for (Pair pair : row(map)) {
                hold(held, map == 0 || map == 3 ? null : pair.key);
                hold(held, map == 1 ? null : pair.value);
            }
        }
        List<Pair> byUse = row(1);
        byUse.sort(Comparator.comparingInt(pair -> pair.use));
        for (Pair pair : byUse) {
            if (!held.contains(pair.value) && time - pair.use >= 12 - 4 * pressure) {
                go(1, pair);
            } else {
                hold(held, pair.value);
            }
        }
        row(0).stream().filter(pair -> !held.contains(pair.key)).forEach(pair -> go(0, pair));
        int before = things.size();
        things.values().removeIf(thing -> !held.contains(thing));
        collected += before - things.size();
        return before - things.size();
    }

    int value(int object) {
        return things.containsKey(object) ? things.get(object).value : -1;
    }

    int count(int what) {
        return switch (what) {
            case 0 -> things.size();
            case 1 -> collected;
            case 2 -> weak.size();
            case 3 -> time;
            default -> -1;
        };
    }
}
