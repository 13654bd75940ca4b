import java.util.ArrayList;
import java.util.NoSuchElementException;

/** Five kinds of maps over objects that are collected when nobody holds them. */
public final class HoldMaps {
    public static final int NONE = -1;

    private static final int OBJECTS = 32;
    private static final int HIGHEST_VALUE = 99;
    private static final int REFERENCES = 2;

    private static final int WEAK = 0;
    private static final int SOFT = 1;
    private static final int IDENTITY = 2;
    private static final int PLACES = 3;
    private static final int LATEST = 4;
    private static final int MAPS = 5;

    private static final int FIRST_BUCKETS = 4;
    private static final int MOST_BUCKETS = 32;
    private static final int SLOTS = 16;
    private static final int MOST_IN_SLOTS = 12;
    private static final int PLACE_NUMBERS = 8;
    private static final int MOST_LATEST = 6;

    private static final int HIGHEST_PRESSURE = 3;
    private static final int PATIENCE = 12;
    private static final int PATIENCE_PER_PRESSURE = 4;

    private final Heap heap;
    private final WeakMap weak;
    private final SoftMap soft;
    private final Table[] tables;

    public HoldMaps() {
        heap = new Heap();
        weak = new WeakMap();
        soft = new SoftMap();
        tables = new Table[MAPS];
        tables[WEAK] = weak;
        tables[SOFT] = soft;
        tables[IDENTITY] = new IdentityMap();
        tables[PLACES] = new PlacesMap();
        tables[LATEST] = new LatestMap();
    }

    public int make(int value) throws IllegalArgumentException, IllegalStateException {
        if (value < 0 || value > HIGHEST_VALUE) {
            throw new IllegalArgumentException("the value is not 0 .. 99");
        }
        int number = heap.lowestFree();
        if (number == NONE) {
            throw new IllegalStateException("there are 32 objects");
        }
        heap.things[number] = new Thing(value);
        return number;
    }

    public int refer(int object, int which, int to) throws IllegalArgumentException {
        if (!heap.has(object) || which < 0 || which >= REFERENCES) {
            throw new IllegalArgumentException("no such object or reference");
        }
        if (to != NONE && !heap.has(to)) {
            throw new IllegalArgumentException("no such object to refer to");
        }
        int[] references = heap.things[object].references;
        int before = references[which];
        references[which] = to;
        return before;
    }

    public boolean root(int object, boolean is) throws IllegalArgumentException {
        if (!heap.has(object)) {
            throw new IllegalArgumentException("no such object");
        }
        Thing thing = heap.things[object];
        boolean before = thing.isRoot;
        thing.isRoot = is;
        return before;
    }

    public int put(int map, int key, int value) throws IllegalArgumentException, IllegalStateException {
        if (!isKeyOf(map, key) || !heap.has(value)) {
            throw new IllegalArgumentException("no such map, key or value");
        }
        Table table = tables[map];
        int keyValue = heap.things[key].value;
        int mark = table.markOf(key, keyValue);
        int at = table.find(mark);
        Entry entry = table.entryAt(at);
        if (entry == null && table.isFull()) {
            throw new IllegalStateException("the map is full");
        }
        table.tick();
        if (entry == null) {
            table.add(new Entry(table.keyOf(key, keyValue), mark, value));
            return NONE;
        }
        int before = entry.value;
        entry.value = value;
        table.use(at);
        return before;
    }

    public int get(int map, int key) throws IllegalArgumentException {
        if (!isKeyOf(map, key)) {
            throw new IllegalArgumentException("no such map or key");
        }
        Table table = tables[map];
        table.tick();
        int at = table.find(table.markOf(key, heap.things[key].value));
        int found = table.valueAt(at);
        if (at != NONE) {
            table.use(at);
        }
        return found;
    }

    public int remove(int map, int key) throws IllegalArgumentException {
        if (!isKeyOf(map, key)) {
            throw new IllegalArgumentException("no such map or key");
        }
        Table table = tables[map];
        int at = table.find(table.markOf(key, heap.things[key].value));
        int found = table.valueAt(at);
        if (at != NONE) {
            table.dropAt(at);
        }
        return found;
    }

    public int size(int map) {
        return isMap(map) ? tables[map].length() : NONE;
    }

    public int entry(int map, int k, int what) throws NoSuchElementException {
        if (!isMap(map) || what < 0 || what > 1) {
            throw new NoSuchElementException("no such map or part of an entry");
        }
        int found = what == 0 ? tables[map].keyAt(k) : tables[map].valueAt(k);
        if (found == NONE) {
            throw new NoSuchElementException("no such entry");
        }
        return found;
    }

    public void walk(int map) throws IllegalArgumentException {
        if (!isMap(map)) {
            throw new IllegalArgumentException("no such map");
        }
        Table table = tables[map];
        table.hasWalk = true;
        table.isBroken = false;
        table.walked = 0;
    }

    public int step(int map) throws IllegalArgumentException, IllegalStateException, NoSuchElementException {
        if (!isMap(map) || !tables[map].hasWalk) {
            throw new IllegalArgumentException("no such map, or no walk of it");
        }
        Table table = tables[map];
        if (table.isBroken) {
            throw new IllegalStateException("the map was changed since the walk began");
        }
        int next = table.keyAt(table.walked);
        if (next == NONE) {
            throw new NoSuchElementException("the walk is at its end");
        }
        table.walked++;
        return next;
    }

    public int collect(int pressure) throws IllegalArgumentException {
        if (pressure < 0 || pressure > HIGHEST_PRESSURE) {
            throw new IllegalArgumentException("the pressure is not 0 .. 3");
        }
        heap.holdRootsOnly();
        holdWhatMapsHold();
        dropSoftEntries(PATIENCE - PATIENCE_PER_PRESSURE * pressure);
        dropWeakEntries();
        return heap.sweep();
    }

    public int value(int object) {
        return heap.has(object) ? heap.things[object].value : NONE;
    }

    public int count(int what) {
        switch (what) {
            case 0:
                return heap.living();
            case 1:
                return heap.collected;
            case 2:
                return weak.buckets;
            case 3:
                return soft.time;
            default:
                return NONE;
        }
    }

    private static boolean isMap(int map) {
        return map >= 0 && map < MAPS;
    }

    private boolean isKeyOf(int map, int key) {
        return isMap(map) && heap.has(key) && tables[map].takes(heap.things[key].value);
    }

    private void holdWhatMapsHold() {
        holdKeys(tables[IDENTITY]);
        holdValues(tables[IDENTITY]);
        holdKeys(tables[LATEST]);
        holdValues(tables[LATEST]);
        holdValues(tables[PLACES]);
        holdValues(weak);
        holdKeys(soft);
    }

    private void holdKeys(Table table) {
        for (int k = 0; k < table.length(); k++) {
            heap.hold(table.keyAt(k));
        }
    }

    private void holdValues(Table table) {
        for (int k = 0; k < table.length(); k++) {
            heap.hold(table.valueAt(k));
        }
    }

    /** The order counts: a value that an older entry keeps may hold the value of a younger one. */
    private void dropSoftEntries(int patience) {
        int entries = soft.length();
        int lastUse = 0;
        for (int i = 0; i < entries; i++) {
            int at = soft.usedFirstAfter(lastUse);
            Entry entry = soft.entryAt(at);
            if (entry == null) {
                return;
            }
            lastUse = entry.use;
            if (!heap.isHeld(entry.value) && soft.time - entry.use >= patience) {
                soft.dropAt(at);
            } else {
                heap.hold(entry.value);
            }
        }
    }

    /** From the end on, so that the entries not yet looked at stay where they are. */
    private void dropWeakEntries() {
        for (int k = weak.length() - 1; k >= 0; k--) {
            if (!heap.isHeld(weak.keyAt(k))) {
                weak.dropAt(k);
            }
        }
    }

    /** An object of the document. */
    private static final class Thing {
        final int value;
        final int[] references;
        boolean isRoot;
        boolean isHeld;

        Thing(int value) {
            this.value = value;
            references = new int[] {NONE, NONE};
        }
    }

    /** All objects by their numbers, null where a number is free, and which of them are held. */
    private static final class Heap {
        final Thing[] things = new Thing[OBJECTS];
        final int[] heldOnes = new int[OBJECTS];
        int heldCount;
        int collected;

        boolean has(int object) {
            return object >= 0 && object < OBJECTS && things[object] != null;
        }

        int lowestFree() {
            for (int i = 0; i < OBJECTS; i++) {
                if (things[i] == null) {
                    return i;
                }
            }
            return NONE;
        }

        int living() {
            int living = 0;
            for (int i = 0; i < OBJECTS; i++) {
                if (things[i] != null) {
                    living++;
                }
            }
            return living;
        }

        boolean isHeld(int object) {
            return has(object) && things[object].isHeld;
        }

        void holdRootsOnly() {
            heldCount = 0;
            for (int i = 0; i < OBJECTS; i++) {
                if (things[i] != null) {
                    things[i].isHeld = false;
                }
            }
            for (int i = 0; i < OBJECTS; i++) {
                if (things[i] != null && things[i].isRoot) {
                    hold(i);
                }
            }
        }

        /** Goes along the row of held ones while it grows: no recursion, and each object but once. */
        void hold(int object) {
            int from = heldCount;
            mark(object);
            for (int i = from; i < OBJECTS && i < heldCount; i++) {
                markWhatItRefersTo(heldOnes[i]);
            }
        }

        private void markWhatItRefersTo(int object) {
            if (has(object)) {
                for (int which = 0; which < REFERENCES; which++) {
                    mark(things[object].references[which]);
                }
            }
        }

        private void mark(int object) {
            if (has(object) && !things[object].isHeld && heldCount < OBJECTS) {
                things[object].isHeld = true;
                heldOnes[heldCount] = object;
                heldCount++;
            }
        }

        int sweep() {
            int gone = 0;
            for (int i = 0; i < OBJECTS; i++) {
                if (things[i] != null && !things[i].isHeld) {
                    things[i] = null;
                    gone++;
                }
            }
            collected += gone;
            return gone;
        }
    }

    /** The mark is what keys that are the same have in common: a VALUE, or the object's number. */
    private static final class Entry {
        final int key;
        final int mark;
        int value;
        int use;

        Entry(int key, int mark, int value) {
            this.key = key;
            this.mark = mark;
            this.value = value;
        }
    }

    /** A map: its row of entries, told by their places 0, 1, .. in it, and its walk. */
    private abstract static class Table {
        boolean hasWalk;
        boolean isBroken;
        int walked;

        abstract int length();

        /** Null when there is none. */
        abstract Entry entryAt(int k);

        abstract void add(Entry entry);

        abstract void dropAt(int k);

        /** NONE when there is none, and so with valueAt(). */
        int keyAt(int k) {
            Entry entry = entryAt(k);
            return entry == null ? NONE : entry.key;
        }

        int valueAt(int k) {
            Entry entry = entryAt(k);
            return entry == null ? NONE : entry.value;
        }

        int find(int mark) {
            for (int k = 0; k < length(); k++) {
                Entry entry = entryAt(k);
                if (entry != null && entry.mark == mark) {
                    return k;
                }
            }
            return NONE;
        }

        int markOf(int object, int value) {
            return value;
        }

        int keyOf(int object, int value) {
            return object;
        }

        boolean takes(int value) {
            return true;
        }

        boolean isFull() {
            return false;
        }

        /** A put or a get has come; only SOFT counts them. */
        void tick() {
        }

        /** An entry that was there was put or got; only SOFT and LATEST care. */
        void use(int k) {
        }
    }

    /** A map whose entries lie without gaps. */
    private abstract static class Row extends Table {
        final ArrayList<Entry> row = new ArrayList<>();

        int length() {
            return row.size();
        }

        Entry entryAt(int k) {
            return k >= 0 && k < row.size() ? row.get(k) : null;
        }

        void dropAt(int k) {
            if (k >= 0 && k < row.size()) {
                row.remove(k);
                isBroken = true;
            }
        }

        void append(Entry entry) {
            row.add(entry);
            isBroken = true;
        }
    }

    /** The row is kept in the order of the buckets, so the buckets need no rows of their own. */
    private static final class WeakMap extends Row {
        final ArrayList<Entry> moving = new ArrayList<>();
        int buckets = FIRST_BUCKETS;

        void add(Entry entry) {
            addToBucket(entry);
            isBroken = true;
            if (4 * row.size() > 3 * buckets && buckets < MOST_BUCKETS) {
                doubleBuckets();
            }
        }

        private void addToBucket(Entry entry) {
            int bucket = bucketOf(entry);
            int at = 0;
            while (at < row.size() && bucketOf(row.get(at)) < bucket) {
                at++;
            }
            row.add(at, entry);
        }

        private int bucketOf(Entry entry) {
            int hash = entry.mark ^ (entry.mark >> 4);
            return hash & (buckets - 1);
        }

        private void doubleBuckets() {
            moving.clear();
            for (int i = 0; i < row.size(); i++) {
                moving.add(row.get(i));
            }
            row.clear();
            buckets = 2 * buckets;
            for (int i = 0; i < moving.size(); i++) {
                addToBucket(moving.get(i));
            }
        }
    }

    private static final class SoftMap extends Row {
        int time;

        void add(Entry entry) {
            entry.use = time;
            append(entry);
        }

        void tick() {
            time++;
        }

        void use(int k) {
            Entry entry = entryAt(k);
            if (entry != null) {
                entry.use = time;
            }
        }

        /** No two entries have one use, for each put or get has a TIME of its own. */
        int usedFirstAfter(int use) {
            int first = NONE;
            for (int k = 0; k < row.size(); k++) {
                int its = row.get(k).use;
                if (its > use && (first == NONE || its < row.get(first).use)) {
                    first = k;
                }
            }
            return first;
        }
    }

    private static final class IdentityMap extends Table {
        final Entry[] slots = new Entry[SLOTS];
        int entries;

        int length() {
            return entries;
        }

        Entry entryAt(int k) {
            int slot = slotOf(k);
            return slot == NONE ? null : slots[slot];
        }

        void add(Entry entry) {
            int first = firstSlot(entry);
            for (int i = 0; i < SLOTS; i++) {
                int slot = (first + i) % SLOTS;
                if (slots[slot] == null) {
                    slots[slot] = entry;
                    entries++;
                    isBroken = true;
                    return;
                }
            }
        }

        void dropAt(int k) {
            int slot = slotOf(k);
            if (slot != NONE) {
                slots[slot] = null;
                entries--;
                isBroken = true;
                closeUp(slot);
            }
        }

        int markOf(int object, int value) {
            return object;
        }

        boolean isFull() {
            return entries >= MOST_IN_SLOTS;
        }

        private int slotOf(int k) {
            int before = 0;
            for (int slot = 0; slot < SLOTS; slot++) {
                if (slots[slot] != null) {
                    if (before == k) {
                        return slot;
                    }
                    before++;
                }
            }
            return NONE;
        }

        private static int firstSlot(Entry entry) {
            return (7 * entry.key) % SLOTS;
        }

        /** find() could do without, but the row shows in which slots the entries lie. */
        private void closeUp(int gone) {
            int free = gone;
            for (int i = 1; i < SLOTS; i++) {
                int slot = (gone + i) % SLOTS;
                Entry entry = slots[slot];
                if (entry == null) {
                    return;
                }
                if (!liesBehind(firstSlot(entry), free, slot)) {
                    slots[free] = entry;
                    slots[slot] = null;
                    free = slot;
                }
            }
        }

        private static boolean liesBehind(int first, int free, int upTo) {
            int steps = Math.floorMod(first - free, SLOTS);
            return steps > 0 && steps <= Math.floorMod(upTo - free, SLOTS);
        }
    }

    private static final class PlacesMap extends Row {
        void add(Entry entry) {
            int at = 0;
            while (at < row.size() && row.get(at).key < entry.key) {
                at++;
            }
            row.add(at, entry);
            isBroken = true;
        }

        int keyOf(int object, int value) {
            return value;
        }

        boolean takes(int value) {
            return value < PLACE_NUMBERS;
        }
    }

    private static final class LatestMap extends Row {
        void add(Entry entry) {
            append(entry);
            if (row.size() > MOST_LATEST) {
                dropAt(0);
            }
        }

        void use(int k) {
            if (k >= 0 && k < row.size() - 1) {
                Entry entry = row.get(k);
                dropAt(k);
                append(entry);
            }
        }
    }
}
