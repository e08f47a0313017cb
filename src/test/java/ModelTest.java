import java.util.Arrays;
import java.util.Map;
import java.util.NoSuchElementException;
import java.util.Random;
import java.util.TreeMap;

/** Runs of chance calls (always the same ones) on the class and on a plain map of the Java library: the answers must agree. */
public final class ModelTest {
    private static final int RUNS = 3000;
    private static final int CALLS = 512;

    private final Random chance;
    private final String run;
    private final OrderedBytes map;
    private final Model model;
    private final int keyKinds;
    private final int longestKey;
    private final int longestValue;
    private int calls = 0;

    private ModelTest(int seed) {
        chance = new Random(seed);
        int entries = chance.nextBoolean() ? 1024 : 1 + chance.nextInt(30);
        int units = chance.nextBoolean() ? 4096 : 1 + chance.nextInt(60);
        keyKinds = 1 + chance.nextInt(chance.nextBoolean() ? 3 : 256);
        longestKey = chance.nextInt(3) == 0 ? 64 : 1 + chance.nextInt(4);
        longestValue = chance.nextInt(4) == 0 ? 512 : chance.nextInt(48);
        run = "run " + seed + " (" + entries + ", " + units + ")";
        map = new OrderedBytes(entries, units);
        model = new Model(entries, units);
    }

    public static void main(String[] args) {
        int runs = args.length > 0 ? Integer.parseInt(args[0]) : RUNS;
        int most = args.length > 1 ? Integer.parseInt(args[1]) : CALLS;
        for (int seed = 1; seed <= runs; seed++) {
            ModelTest test = new ModelTest(seed);
            while (test.calls < most) {
                test.someCalls(most);
            }
        }
        Check.end();
    }

    private void both(String what, int most, Check.Call onModel, Check.Call onMap) {
        if (calls < most) {
            calls++;
            Check.due(run + ", call " + calls + ": " + what, Check.answer(onModel), onMap);
        }
    }

    private byte[] chanceRow(int length, int kinds) {
        byte[] row = new byte[length];
        for (int i = 0; i < length; i++) {
            row[i] = (byte) (chance.nextInt(kinds) * 101);
        }
        return row;
    }

    private byte[] chanceKey() {
        return chanceRow(1 + chance.nextInt(longestKey), keyKinds);
    }

    private void feedRow(byte[] row, int most) {
        for (int from = 0; from < row.length; from += 8) {
            int n = Math.min(8, row.length - from);
            long eight = Check.eight(row, from, n);
            both("feed", most, () -> model.feed(eight, n), () -> map.feed(eight, n));
        }
    }

    private void someCalls(int most) {
        int kind = chance.nextInt(100);
        if (kind < 40) {
            putSome(most);
        } else if (kind < 65) {
            readKeySome(kind, most);
        } else if (kind < 90) {
            moveSome(kind, most);
        } else {
            rareSome(most);
        }
        both("sound", most, () -> true, map::sound);
    }

    private void putSome(int most) {
        byte[] key = chanceKey();
        feedRow(Check.joined(key, chanceRow(chance.nextInt(longestValue + 1), 256)), most);
        int k = chance.nextInt(50) == 0 ? chance.nextInt(70) - 3 : key.length;
        both("put", most, () -> model.put(k), () -> map.put(k));
        lookAround(most);
    }

    private void readKeySome(int kind, int most) {
        if (chance.nextInt(30) != 0) {
            feedRow(chanceKey(), most);
        }
        int how = chance.nextInt(40) == 0 ? chance.nextInt(9) - 3 : chance.nextInt(4);
        if (kind < 47) {
            both("remove", most, model::remove, map::remove);
        } else if (kind < 53) {
            both("get", most, model::get, map::get);
        } else if (kind < 59) {
            both("seek " + how, most, () -> model.seek(how), () -> map.seek(how));
        } else {
            both("range", most, model::range, map::range);
        }
        lookAround(most);
    }

    private void moveSome(int kind, int most) {
        int k = chance.nextInt(model.entries.size() + 3) - 1;
        boolean back = chance.nextBoolean();
        if (kind < 70) {
            both("at " + k, most, () -> model.at(k), () -> map.at(k));
        } else if (kind < 78) {
            both("step " + back, most, () -> model.step(back), () -> map.step(back));
        } else if (kind < 84) {
            both("value", most, model::value, map::value);
        } else {
            both("place", most, model::place, map::place);
        }
        lookAround(most);
    }

    private void rareSome(int most) {
        int n = chance.nextInt(20) == 0 ? -1 : chance.nextInt(10) == 0 ? Integer.MAX_VALUE : chance.nextInt(5);
        switch (chance.nextInt(12)) {
            case 0:
                both("clear", most, model::clear, map::clear);
                break;
            case 1:
                both("feed", most, () -> model.feed(-2, n), () -> map.feed(-2, n));
                break;
            case 2:
            case 3:
                feedRow(chanceRow(chance.nextInt(80), keyKinds), most);
                break;
            default:
                both("removeFrom " + n, most, () -> model.removeFrom(n), () -> map.removeFrom(n));
        }
        lookAround(most);
    }

    private void lookAround(int most) {
        int what = chance.nextInt(9) - 1;
        both("count " + what, most, () -> model.count(what), () -> map.count(what));
        int i = chance.nextInt(model.result.length + 3) - 1;
        both("byteAt " + i, most, () -> model.byteAt(i), () -> map.byteAt(i));
    }

    /** The document's words over a TreeMap, without a thought for speed or memory. */
    private static final class Model {
        final TreeMap<byte[], byte[]> entries = new TreeMap<>(Arrays::compareUnsigned);
        final int mostEntries;
        final int mostUnits;
        byte[] tape = new byte[0];
        byte[] result = new byte[0];
        byte[] current = null;

        Model(int mostEntries, int mostUnits) {
            this.mostEntries = mostEntries;
            this.mostUnits = mostUnits;
        }

        int feed(long eight, int n) {
            require(n >= 1 && n <= 8);
            state(tape.length + n <= 600);
            byte[] more = new byte[n];
            for (int i = 0; i < n; i++) {
                more[i] = (byte) (eight >> 8 * i);
            }
            tape = Check.joined(tape, more);
            return tape.length;
        }

        boolean put(int k) {
            byte[] row = readTape();
            require(k >= 1 && k <= 64 && k <= row.length && row.length - k <= 512);
            byte[] key = Arrays.copyOf(row, k);
            TreeMap<byte[], byte[]> after = new TreeMap<>(entries);
            boolean isNew = after.put(key, Arrays.copyOfRange(row, k, row.length)) == null;
            state(after.size() <= mostEntries && units(after) <= mostUnits);
            entries.putAll(after);
            current = key;
            return isNew;
        }

        int get() {
            byte[] key = readKey();
            present(entries.get(key));
            current = key;
            return value();
        }

        boolean remove() {
            byte[] key = readKey();
            if (current != null && Arrays.equals(current, key)) {
                current = null;
            }
            return entries.remove(key) != null;
        }

        int seek(int how) {
            byte[] key = readKey();
            require(how >= 0 && how <= 3);
            return goTo(present(how == 0 ? entries.ceilingKey(key) : how == 1 ? entries.higherKey(key)
                : how == 2 ? entries.floorKey(key) : entries.lowerKey(key)));
        }

        int at(int k) {
            if (k < 0 || k >= entries.size()) {
                throw new IndexOutOfBoundsException();
            }
            return goTo(entries.keySet().toArray(new byte[0][])[k]);
        }

        boolean step(boolean back) {
            state(current != null);
            byte[] next = back ? entries.lowerKey(current) : entries.higherKey(current);
            if (next != null) {
                goTo(next);
            }
            return next != null;
        }

        int value() {
            state(current != null);
            result = entries.get(current);
            return result.length;
        }

        int place() {
            state(current != null);
            return entries.headMap(current).size();
        }

        int range() {
            byte[] row = readTape();
            require(row.length <= 64);
            state(current != null);
            int n = 0;
            for (byte[] key : entries.tailMap(current).keySet()) {
                n += row.length == 0 || Arrays.compareUnsigned(key, row) < 0 ? 1 : 0;
            }
            return n;
        }

        int removeFrom(int n) {
            require(n >= 0);
            state(current != null);
            int removed = 0;
            byte[] key = current;
            while (key != null && removed - 1 < n) {
                byte[] next = entries.higherKey(key);
                entries.remove(key);
                removed++;
                key = next;
            }
            current = null;
            return removed;
        }

        int clear() {
            int n = entries.size();
            entries.clear();
            current = null;
            return n;
        }

        int byteAt(int i) {
            if (i < 0 || i >= result.length) {
                throw new IndexOutOfBoundsException();
            }
            return result[i] & 255;
        }

        int count(int what) {
            int keys = 0;
            int values = 0;
            for (Map.Entry<byte[], byte[]> entry : entries.entrySet()) {
                keys += entry.getKey().length;
                values += entry.getValue().length;
            }
            int[] counts = {entries.size(), units(entries), keys, values, tape.length, result.length};
            return what < 0 || what > 5 ? -1 : counts[what];
        }

        private static int units(Map<byte[], byte[]> entries) {
            int units = 0;
            for (Map.Entry<byte[], byte[]> entry : entries.entrySet()) {
                units += (entry.getKey().length + entry.getValue().length + 15) / 16;
            }
            return units;
        }

        private int goTo(byte[] key) {
            current = key;
            result = key;
            return key.length;
        }

        private byte[] readTape() {
            byte[] row = tape;
            tape = new byte[0];
            return row;
        }

        private byte[] readKey() {
            byte[] key = readTape();
            require(key.length >= 1 && key.length <= 64);
            return key;
        }

        private static void require(boolean holds) {
            if (!holds) {
                throw new IllegalArgumentException();
            }
        }

        private static void state(boolean holds) {
            if (!holds) {
                throw new IllegalStateException();
            }
        }

        private static byte[] present(byte[] row) {
            if (row == null) {
                throw new NoSuchElementException();
            }
            return row;
        }
    }
}
