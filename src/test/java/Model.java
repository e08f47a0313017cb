import java.util.Arrays;
import java.util.Map;
import java.util.NoSuchElementException;
import java.util.TreeMap;

/** The document's words over a TreeMap, without a thought for speed or memory. */
final class Model {
    final TreeMap<byte[], byte[]> entries = new TreeMap<>(Arrays::compareUnsigned);
    final int mostEntries;
    final int mostUnits;
    byte[] tape = new byte[0];
    byte[] result = new byte[0];
    byte[] current = null;

    Model(int mostEntries, int mostUnits) {
        this.mostEntries = Math.max(1, Math.min(1024, mostEntries));
        this.mostUnits = Math.max(1, Math.min(4096, mostUnits));
    }

    int feed(long eight, int n) {
        require(n >= 1 && n <= 8);
        state(tape.length + n <= 600);
        byte[] more = new byte[n];
        for (int i = 0; i < n; i++) {
            more[i] = (byte) (eight >> 8 * i);
        }
        tape = Check.joined(tape, more);
        return tape.length;
    }

    boolean put(int k) {
        byte[] row = readTape();
        require(k >= 1 && k <= 64 && k <= row.length && row.length - k <= 512);
        byte[] key = Arrays.copyOf(row, k);
        TreeMap<byte[], byte[]> after = new TreeMap<>(entries);
        boolean isNew = after.put(key, Arrays.copyOfRange(row, k, row.length)) == null;
        state(after.size() <= mostEntries && units(after) <= mostUnits);
        entries.putAll(after);
        current = key;
        return isNew;
    }

    int get() {
        byte[] key = readKey();
        present(entries.get(key));
        current = key;
        return value();
    }

    boolean remove() {
        byte[] key = readKey();
        if (current != null && Arrays.equals(current, key)) {
            current = null;
        }
        return entries.remove(key) != null;
    }

    int seek(int how) {
        byte[] key = readKey();
        require(how >= 0 && how <= 3);
        return goTo(present(how == 0 ? entries.ceilingKey(key) : how == 1 ? entries.higherKey(key)
            : how == 2 ? entries.floorKey(key) : entries.lowerKey(key)));
    }

    int at(int k) {
        if (k < 0 || k >= entries.size()) {
            throw new IndexOutOfBoundsException();
        }
        return goTo(entries.keySet().toArray(new byte[0][])[k]);
    }

    boolean step(boolean back) {
        state(current != null);
        byte[] next = back ? entries.lowerKey(current) : entries.higherKey(current);
        if (next != null) {
            goTo(next);
        }
        return next != null;
    }

    int value() {
        state(current != null);
        result = entries.get(current);
        return result.length;
    }

    int place() {
        state(current != null);
        return entries.headMap(current).size();
    }

    int range() {
        byte[] row = readTape();
        require(row.length <= 64);
        state(current != null);
        int n = 0;
        for (byte[] key : entries.tailMap(current).keySet()) {
            n += row.length == 0 || Arrays.compareUnsigned(key, row) < 0 ? 1 : 0;
        }
        return n;
    }

    int removeFrom(int n) {
        require(n >= 0);
        state(current != null);
        int removed = 0;
        byte[] key = current;
        while (key != null && removed - 1 < n) {
            byte[] next = entries.higherKey(key);
            entries.remove(key);
            removed++;
            key = next;
        }
        current = null;
        return removed;
    }

    int clear() {
        int n = entries.size();
        entries.clear();
        current = null;
        return n;
    }

    int byteAt(int i) {
        if (i < 0 || i >= result.length) {
            throw new IndexOutOfBoundsException();
        }
        return result[i] & 255;
    }

    int count(int what) {
        int keys = 0;
        int values = 0;
        for (Map.Entry<byte[], byte[]> entry : entries.entrySet()) {
            keys += entry.getKey().length;
            values += entry.getValue().length;
        }
        int[] counts = {entries.size(), units(entries), keys, values, tape.length, result.length};
        return what < 0 || what > 5 ? -1 : counts[what];
    }

    private static int units(Map<byte[], byte[]> entries) {
        int units = 0;
        for (Map.Entry<byte[], byte[]> entry : entries.entrySet()) {
            units += (entry.getKey().length + entry.getValue().length + 15) / 16;
        }
        return units;
    }

    private int goTo(byte[] key) {
        current = key;
        result = key;
        return key.length;
    }

    private byte[] readTape() {
        byte[] row = tape;
        tape = new byte[0];
        return row;
    }

    private byte[] readKey() {
        byte[] key = readTape();
        require(key.length >= 1 && key.length <= 64);
        return key;
    }

    private static void require(boolean holds) {
        if (!holds) {
            throw new IllegalArgumentException();
        }
    }

    private static void state(boolean holds) {
        if (!holds) {
            throw new IllegalStateException();
        }
    }

    private static byte[] present(byte[] row) {
        if (row == null) {
            throw new NoSuchElementException();
        }
        return row;
    }
}
