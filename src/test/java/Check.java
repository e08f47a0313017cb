import java.util.Arrays;
import java.util.Objects;

/** Counts the answers that are not as due; a test ends with exit code 1 when there was one. */
final class Check {
    private static int wrong = 0;

    /** A call whose answer may be an exception. */
    interface Call {
        Object run();
    }

    private Check() {
    }

    /** The answer of a call: its value, or the very class of what it throws. */
    static Object answer(Call call) {
        try {
            return call.run();
        } catch (RuntimeException e) {
            return e.getClass();
        }
    }

    static void due(String what, Object want, Call call) {
        Object got = answer(call);
        if (!Objects.equals(got, want)) {
            wrong++;
            System.out.println(what + " answered " + got + ", due is " + want);
        }
    }

    /** Feeds the row in pieces of at most eight bytes. */
    static void feed(OrderedBytes map, byte[] row) {
        for (int from = 0; from < row.length; from += 8) {
            int n = Math.min(8, row.length - from);
            map.feed(eight(row, from, n), n);
        }
    }

    static long eight(byte[] row, int from, int n) {
        long eight = 0;
        for (int i = n - 1; i >= 0; i--) {
            eight = eight << 8 | row[from + i] & 255;
        }
        return eight;
    }

    static byte[] row(int... bytes) {
        byte[] row = new byte[bytes.length];
        for (int i = 0; i < row.length; i++) {
            row[i] = (byte) bytes[i];
        }
        return row;
    }

    /** A row of so many bytes that differ from one another where they lie close together. */
    static byte[] filled(int length, int first) {
        byte[] row = new byte[length];
        for (int i = 0; i < length; i++) {
            row[i] = (byte) (first + 7 * i);
        }
        return row;
    }

    static byte[] joined(byte[] one, byte[] other) {
        byte[] row = Arrays.copyOf(one, one.length + other.length);
        System.arraycopy(other, 0, row, one.length, other.length);
        return row;
    }

    static boolean put(OrderedBytes map, byte[] key, byte[] value) {
        feed(map, joined(key, value));
        return map.put(key.length);
    }

    static int get(OrderedBytes map, byte[] key) {
        feed(map, key);
        return map.get();
    }

    static boolean remove(OrderedBytes map, byte[] key) {
        feed(map, key);
        return map.remove();
    }

    static int seek(OrderedBytes map, byte[] key, int how) {
        feed(map, key);
        return map.seek(how);
    }

    static int range(OrderedBytes map, byte[] key) {
        feed(map, key);
        return map.range();
    }

    /** The whole result, as text, so that it can be compared and printed. */
    static String result(OrderedBytes map) {
        byte[] row = new byte[map.count(5)];
        for (int i = 0; i < row.length; i++) {
            row[i] = (byte) map.byteAt(i);
        }
        return Arrays.toString(row);
    }

    static void dueResult(String what, OrderedBytes map, byte[] want) {
        due(what + ": the result", Arrays.toString(want), () -> result(map));
    }

    static void end() {
        System.out.println(wrong == 0 ? "all answers are as due" : wrong + " answers are not as due");
        if (wrong != 0) {
            System.exit(1);
        }
    }
}
