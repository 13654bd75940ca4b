public final class Promise01NewObjectTest {
    public static void main(String[] args) {
        Check check = new Check();
        HoldMaps x = new HoldMaps();
        check.same("objects", Check.living(x), "");
        for (int map = 0; map < 5; map++) {
            int m = map;
            check.same("size of " + map, x.size(map), 0);
            check.noElement("entry 0 of " + map, x, () -> x.entry(m, 0, 0));
            check.badArgument("no walk of " + map, x, () -> x.step(m));
        }
        check.same("counts", x.count(0) + " " + x.count(1) + " " + x.count(2) + " " + x.count(3), "0 0 4 0");
        check.same("nothing to collect", x.collect(3), 0);

        HoldMaps y = new HoldMaps();
        x.make(7);
        x.put(Check.LATEST, 0, 0);
        x.walk(Check.LATEST);
        check.same("two objects have nothing in common", Check.state(y), Check.state(new HoldMaps()));
        check.badArgument("a walk of another object", y, () -> y.step(Check.LATEST));
        check.end();
    }
}
