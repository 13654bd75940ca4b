public final class Promise11StepTest {
    private static final Check CHECK = new Check();

    public static void main(String[] args) {
        wrongMaps();
        for (int map = 0; map < 5; map++) {
            goesAlongTheRow(map);
            breaks(map);
        }
        latestBreaksByMoving();
        othersDoNotBreakByUse();
        collectingBreaks();
        weakBreaksByDoubling();
        CHECK.end();
    }

    private static void wrongMaps() {
        HoldMaps x = Check.withNumbers(2);
        int[] noMaps = {-1, 5, Integer.MIN_VALUE, Integer.MAX_VALUE};
        for (int map : noMaps) {
            CHECK.badArgument("no map " + map, x, () -> x.step(map));
        }
        x.put(Check.WEAK, 0, 0);
        x.walk(Check.SOFT);
        CHECK.badArgument("a walk of another map", x, () -> x.step(Check.WEAK));
        CHECK.noElement("an empty map", x, () -> x.step(Check.SOFT));
    }

    private static void goesAlongTheRow(int map) {
        HoldMaps x = Check.with(7, 2, 6, 0, 5);
        Check.putAll(x, map, 4, 2, 1, 0, 3);
        x.walk(map);
        for (int k = 0; k < 4; k++) {
            CHECK.same("step " + k + " of map " + map, x.step(map), x.entry(map, k, 0));
        }
        CHECK.noElement("the end of map " + map, x, () -> x.step(map));
        CHECK.noElement("still the end of map " + map, x, () -> x.step(map));
        x.remove(map, 0);
        CHECK.badState("broken counts before the end in map " + map, x, () -> x.step(map));
    }

    private static void breaks(int map) {
        HoldMaps x = Check.withNumbers(8);
        Check.putAll(x, map, 7, 0, 1);
        x.walk(map);
        x.remove(map, 5);
        x.get(map, 5);
        CHECK.same("nothing came or went in map " + map, x.step(map), x.entry(map, 0, 0));
        x.put((map + 1) % 5, 3, 3);
        x.remove((map + 1) % 5, 3);
        CHECK.same("another map was changed than " + map, x.step(map), x.entry(map, 1, 0));
        x.walk(map);
        x.put(map, 5, 5);
        CHECK.badState("one came into map " + map, x, () -> x.step(map));
        x.remove(map, 5);
        CHECK.badState("it stays broken in map " + map, x, () -> x.step(map));
        x.walk(map);
        x.remove(map, 1);
        CHECK.badState("one went from map " + map, x, () -> x.step(map));
    }

    private static void latestBreaksByMoving() {
        HoldMaps x = Check.withNumbers(4);
        Check.putAll(x, Check.LATEST, 3, 0, 1, 2);
        x.walk(Check.LATEST);
        x.get(Check.LATEST, 2);
        x.put(Check.LATEST, 2, 0);
        CHECK.same("the last one does not move", x.step(Check.LATEST), 0);
        x.get(Check.LATEST, 1);
        CHECK.badState("get moves", x, () -> x.step(Check.LATEST));
        x.walk(Check.LATEST);
        x.put(Check.LATEST, 0, 0);
        CHECK.badState("put moves", x, () -> x.step(Check.LATEST));
    }

    private static void othersDoNotBreakByUse() {
        for (int map = 0; map < 4; map++) {
            HoldMaps x = Check.withNumbers(4);
            Check.putAll(x, map, 3, 0, 1, 2);
            x.walk(map);
            x.get(map, 0);
            x.put(map, 1, 2);
            CHECK.same("a use in map " + map, x.step(map), x.entry(map, 0, 0));
        }
    }

    private static void collectingBreaks() {
        HoldMaps x = Check.withNumbers(8);
        for (int map = 0; map < 5; map++) {
            x.put(map, map, 5);
            x.walk(map);
        }
        x.put(Check.SOFT, 6, 7);
        x.walk(Check.SOFT);
        x.root(0, true);
        CHECK.same("none goes", x.collect(0), 1);
        CHECK.same("walks of maps that lost none", x.step(Check.WEAK) + " " + x.step(Check.SOFT), "0 1");
        x.root(0, false);
        x.collect(3);
        CHECK.badState("WEAK lost one", x, () -> x.step(Check.WEAK));
        CHECK.badState("SOFT lost one", x, () -> x.step(Check.SOFT));
        CHECK.same("the others did not", x.step(Check.IDENTITY) + " " + x.step(Check.PLACES) + " "
                + x.step(Check.LATEST), "2 3 4");
    }

    private static void weakBreaksByDoubling() {
        HoldMaps x = Check.withNumbers(6);
        Check.putAll(x, Check.WEAK, 5, 0, 1, 2);
        x.walk(Check.WEAK);
        x.put(Check.WEAK, 3, 5);
        CHECK.same("doubled", x.count(2), 8);
        CHECK.badState("doubling", x, () -> x.step(Check.WEAK));
    }
}
