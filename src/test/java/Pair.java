/** An object of the class beside a model: every call goes to both, and their answers must agree. */
final class Pair {
    /** So many calls the document speaks of; further ones are left out. */
    static final int CALLS = 512;

    final OrderedBytes map;
    final Model model;
    private final String name;
    private final int most;
    private int calls = 0;

    Pair(String name, int entries, int units) {
        this(name, entries, units, CALLS);
    }

    Pair(String name, int entries, int units, int most) {
        this.name = name;
        this.most = most;
        map = new OrderedBytes(entries, units);
        model = new Model(entries, units);
    }

    boolean isUsedUp() {
        return calls >= most;
    }

    private Object both(String what, Check.Call onModel, Check.Call onMap) {
        if (isUsedUp()) {
            return null;
        }
        calls++;
        Object want = Check.answer(onModel);
        Check.due(name + ", call " + calls + ": " + what, want, onMap);
        return want;
    }

    Object feed(long eight, int n) {
        return both("feed " + eight + " " + n, () -> model.feed(eight, n), () -> map.feed(eight, n));
    }

    void feed(byte[] row) {
        for (int from = 0; from < row.length; from += 8) {
            int n = Math.min(8, row.length - from);
            feed(Check.eight(row, from, n), n);
        }
    }

    Object put(int k) {
        return both("put " + k, () -> model.put(k), () -> map.put(k));
    }

    Object put(byte[] key, byte[] value) {
        feed(Check.joined(key, value));
        return put(key.length);
    }

    Object get() {
        return both("get", model::get, map::get);
    }

    Object remove() {
        return both("remove", model::remove, map::remove);
    }

    Object seek(int how) {
        return both("seek " + how, () -> model.seek(how), () -> map.seek(how));
    }

    Object at(int k) {
        return both("at " + k, () -> model.at(k), () -> map.at(k));
    }

    Object step(boolean back) {
        return both("step " + back, () -> model.step(back), () -> map.step(back));
    }

    Object value() {
        return both("value", model::value, map::value);
    }

    Object place() {
        return both("place", model::place, map::place);
    }

    Object range() {
        return both("range", model::range, map::range);
    }

    Object removeFrom(int n) {
        return both("removeFrom " + n, () -> model.removeFrom(n), () -> map.removeFrom(n));
    }

    Object clear() {
        return both("clear", model::clear, map::clear);
    }

    Object byteAt(int i) {
        return both("byteAt " + i, () -> model.byteAt(i), () -> map.byteAt(i));
    }

    Object count(int what) {
        return both("count " + what, () -> model.count(what), () -> map.count(what));
    }

    Object sound() {
        return both("sound", () -> true, map::sound);
    }
}
