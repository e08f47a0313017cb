import java.util.Arrays;
import java.util.List;
import java.util.NoSuchElementException;

/** Promises 1 to 16: for each sentence that names a boundary a test of its own, with the sentence above it. */
public final class EdgesTest {
    private static final Class<?> ARGUMENT = IllegalArgumentException.class;
    private static final Class<?> STATE = IllegalStateException.class;
    private static final Class<?> INDEX = IndexOutOfBoundsException.class;
    private static final Class<?> NO_ELEMENT = NoSuchElementException.class;
    private static final int LEAST = Integer.MIN_VALUE;
    private static final int MOST = Integer.MAX_VALUE;
    private static final byte[] EMPTY = {};

    private EdgesTest() {
    }

    public static void main(String[] args) {
        newObjectNearestOfTooSmall();
        newObjectNearestOfTooLarge();
        feedLowestBytes();
        feedNotOneToEight();
        feedMoreThan600();
        putNewOrInPlace();
        putWrongKey();
        putWrongValue();
        putFullThenAllStays();
        getFromEmptyToLongest();
        getNoKey();
        getNoSuchEntry();
        removeWhetherThereWasOne();
        removeNoKey();
        seekAtTheEnds();
        seekWrong();
        seekNone();
        atTheEnds();
        stepAtTheEnds();
        stepNoneIsCurrent();
        valueAtTheEnds();
        placeAtTheEnds();
        rangeToTheEndOfAll();
        rangeNotBelowAndBelow();
        rangeWrong();
        removeFromAsFarAsThereAre();
        removeFromWrong();
        clearHowManyThereWere();
        clearLeavesAllRoom();
        byteAtTheEnds();
        byteValues();
        countNoneForAnother();
        countFromEmptyToFull();
        soundInEveryCorner();
        Check.end();
    }

    private static byte[] row(int... bytes) {
        return Check.row(bytes);
    }

    private static OrderedBytes large() {
        return new OrderedBytes(1024, 4096);
    }

    /** The keys 10, 20, 30; the second is current, the third one's value the result. */
    private static OrderedBytes three() {
        OrderedBytes map = large();
        for (int key : new int[] {30, 10, 20}) {
            Check.put(map, row(key), row(key + 1, key + 2));
        }
        map.at(2);
        map.value();
        Check.put(map, row(20), row(21, 22));
        return map;
    }

    /** All that three() has is still there; it looks without leaving the object as it was. */
    private static void dueThreeAsMade(String what, OrderedBytes map) {
        Check.dueResult(what + ": the result stays", map, row(31, 32));
        Check.due(what + ": current stays", 1, map::place);
        Check.due(what + ": counts stay", List.of(3, 3, 3, 6), () -> counts(map));
        for (int k = 0; k < 3; k++) {
            map.at(k);
            Check.dueResult(what + ": key " + k, map, row(10 * k + 10));
            map.value();
            Check.dueResult(what + ": value " + k, map, row(10 * k + 11, 10 * k + 12));
        }
        Check.due(what + ": sound", true, map::sound);
    }

    private static List<Integer> counts(OrderedBytes map) {
        return Arrays.asList(map.count(0), map.count(1), map.count(2), map.count(3));
    }

    /** 1: at most entries (1 .. 1024) entries and units (1 .. 4096) units; the nearest of these for others (too small). */
    private static void newObjectNearestOfTooSmall() {
        for (int few : new int[] {LEAST, LEAST + 1, -1024, -1, 0, 1}) {
            OrderedBytes entries = new OrderedBytes(few, 4096);
            Check.due("1: one entry of " + few, true, () -> Check.put(entries, row(1), Check.filled(512, 1)));
            Check.due("1: two entries of " + few, STATE, () -> Check.put(entries, row(2), EMPTY));
            OrderedBytes units = new OrderedBytes(1024, few);
            Check.due("1: two units of " + few, STATE, () -> Check.put(units, row(1), Check.filled(16, 1)));
            Check.due("1: one unit of " + few, true, () -> Check.put(units, row(1), Check.filled(15, 1)));
            Check.due("1: a second unit of " + few, STATE, () -> Check.put(units, row(2), EMPTY));
            OrderedBytes both = new OrderedBytes(few, few);
            Check.due("1: both " + few, true, () -> Check.put(both, row(1), EMPTY));
            Check.due("1: both are full " + few, STATE, () -> Check.put(both, row(2), EMPTY));
        }
    }

    /** The same, too large. More than 512 calls: what they answer is free, but these limits show nowhere else. */
    private static void newObjectNearestOfTooLarge() {
        for (int[] asked : new int[][] {{1023, 1023}, {1024, 1024}, {1025, 1024}, {4096, 1024}, {MOST, 1024}}) {
            OrderedBytes map = new OrderedBytes(asked[0], MOST);
            for (int i = 0; i < asked[1]; i++) {
                Check.put(map, row(i >> 8, i), EMPTY);
            }
            Check.due("1: entries of " + asked[0], asked[1], () -> map.count(0));
            Check.due("1: one more of " + asked[0], STATE, () -> Check.put(map, row(9, 9), EMPTY));
        }
        for (int[] asked : new int[][] {{4095, 4095}, {4096, 4096}, {4097, 4096}, {MOST, 4096}}) {
            OrderedBytes map = new OrderedBytes(MOST, asked[0]);
            for (int i = 0; i < 127; i++) {
                Check.put(map, row(i), new byte[511]);
            }
            int rest = asked[1] - 127 * 32;
            Check.due("1: one too many of " + asked[0], STATE, () -> Check.put(map, row(200), new byte[16 * rest]));
            Check.due("1: units of " + asked[0], true, () -> Check.put(map, row(200), new byte[16 * rest - 1]));
            Check.due("1: one more of " + asked[0], STATE, () -> Check.put(map, row(201), EMPTY));
        }
    }

    /** 2: The n lowest bytes of eight come behind the tape, the lowest first: how many it has. */
    private static void feedLowestBytes() {
        int[] bytes = {0x80, 0xFF, 0x00, 0x7F, 0x01, 0xFE, 0x81, 0xF0};
        long eight = 0xF081FE017F00FF80L;
        for (int n = 1; n <= 8; n++) {
            OrderedBytes map = large();
            int many = n;
            Check.due("2: feed " + n, n, () -> map.feed(eight, many));
            Check.due("2: feed " + n + " more", 2 * n, () -> map.feed(eight, many));
            map.put(n);
            map.value();
            Check.dueResult("2: the last " + n, map, row(Arrays.copyOf(bytes, n)));
            map.at(0);
            Check.dueResult("2: the first " + n, map, row(Arrays.copyOf(bytes, n)));
        }
        OrderedBytes map = large();
        Check.due("2: the least long", 8, () -> map.feed(Long.MIN_VALUE, 8));
        Check.due("2: minus one", 16, () -> map.feed(-1, 8));
        map.put(16);
        map.at(0);
        Check.dueResult("2: zeros and 255s", map, row(0, 0, 0, 0, 0, 0, 0, 128, 255, 255, 255, 255, 255, 255, 255, 255));
    }

    /** 2: IllegalArgumentException, when n is not 1 .. 8. */
    private static void feedNotOneToEight() {
        for (int n : new int[] {LEAST, LEAST + 1, -8, -1, 0, 9, 10, 16, 64, 257, 600, 601, MOST - 1, MOST}) {
            OrderedBytes map = three();
            Check.due("2: feed " + n + " on an empty tape", ARGUMENT, () -> map.feed(1, n));
            map.feed(0x0605, 2);
            Check.due("2: feed " + n, ARGUMENT, () -> map.feed(0x0908, n));
            Check.due("2: the tape stays", 2, () -> map.count(4));
            dueThreeAsMade("2: feed " + n, map);
            map.put(2);
            map.at(0);
            Check.dueResult("2: its bytes stay", map, row(5, 6));
        }
    }

    /** 2: IllegalStateException, when there would be more than 600. */
    private static void feedMoreThan600() {
        for (int before = 591; before <= 600; before++) {
            for (int n = 1; n <= 8; n++) {
                OrderedBytes map = large();
                Check.feed(map, new byte[before]);
                boolean fits = before + n <= 600;
                int many = n;
                int after = fits ? before + n : before;
                Check.due("2: " + n + " behind " + before, fits ? (Object) after : STATE, () -> map.feed(-1, many));
                Check.due("2: the tape after " + n + " behind " + before, after, () -> map.count(4));
            }
        }
        OrderedBytes map = three();
        Check.feed(map, Check.filled(600, 1));
        Check.due("2: 601", STATE, () -> map.feed(1, 1));
        dueThreeAsMade("2: 601", map);
    }

    /** 3: in place of another one, or as a new one; it is current: whether it is a new one. */
    private static void putNewOrInPlace() {
        OrderedBytes map = three();
        int[][] wanted = {{5, 0}, {15, 2}, {20, 3}, {35, 5}};
        for (int[] row : wanted) {
            boolean isNew = row[0] != 20;
            Check.due("3: put " + row[0], isNew, () -> Check.put(map, row(row[0]), row(1, 2, 3)));
            Check.due("3: it is current " + row[0], row[1], map::place);
            Check.due("3: again " + row[0], false, () -> Check.put(map, row(row[0]), row(4)));
            Check.due("3: it is current again " + row[0], row[1], map::place);
            Check.due("3: its value " + row[0], 1, map::value);
            Check.dueResult("3: its value " + row[0], map, row(4));
        }
        Check.due("3: no value in place of one", false, () -> Check.put(map, row(5), EMPTY));
        Check.due("3: no value", 0, map::value);
        Check.due("3: longest in place of none", false, () -> Check.put(map, row(5), Check.filled(512, 8)));
        Check.due("3: longest", 512, map::value);
        Check.dueResult("3: longest", map, Check.filled(512, 8));
        Check.due("3: sound", true, map::sound);
    }

    /** 3: IllegalArgumentException, when k (...) (is) not so many as a key (...) may have; the tape's bytes are all there are. */
    private static void putWrongKey() {
        int[][] lengthsAndKeys = {{0, 0}, {0, 1}, {0, LEAST}, {1, 0}, {1, -1}, {1, 2}, {1, MOST}, {1, LEAST}, {8, 9},
            {63, 64}, {64, 65}, {65, 65}, {65, 0}, {66, 65}, {600, 65}, {600, 600}, {600, MOST}, {512, -512}};
        for (int[] row : lengthsAndKeys) {
            OrderedBytes map = three();
            Check.feed(map, Check.filled(row[0], 20));
            String what = "3: put " + row[1] + " of " + row[0];
            Check.due(what, ARGUMENT, () -> map.put(row[1]));
            dueThreeAsMade(what, map);
        }
        OrderedBytes full = new OrderedBytes(1, 1);
        Check.put(full, row(1), EMPTY);
        full.feed(2, 1);
        Check.due("3: wrong, and full", ARGUMENT, () -> full.put(0));
    }

    /** 3: IllegalArgumentException, when (...) the others are not so many as a (...) value may have. */
    private static void putWrongValue() {
        int[][] lengthsAndKeys = {{514, 1}, {515, 2}, {577, 64}, {600, 1}, {600, 64}, {576, 63}};
        for (int[] row : lengthsAndKeys) {
            OrderedBytes map = three();
            Check.feed(map, Check.filled(row[0], 20));
            String what = "3: put " + row[1] + " of " + row[0];
            Check.due(what, ARGUMENT, () -> map.put(row[1]));
            dueThreeAsMade(what, map);
        }
        for (int[] row : new int[][] {{513, 1}, {514, 2}, {576, 64}, {575, 63}, {1, 1}, {64, 64}}) {
            OrderedBytes map = large();
            Check.feed(map, Check.filled(row[0], 20));
            Check.due("3: put " + row[1] + " of " + row[0], true, () -> map.put(row[1]));
            Check.due("3: value behind " + row[1] + " of " + row[0], row[0] - row[1], map::value);
        }
    }

    /** 3: IllegalStateException, when it is FULL (then all stays). */
    private static void putFullThenAllStays() {
        for (int[] limits : new int[][] {{3, 99}, {99, 3}, {3, 3}}) {
            OrderedBytes map = new OrderedBytes(limits[0], limits[1]);
            for (int key : new int[] {30, 10, 20}) {
                Check.put(map, row(key), row(key + 1, key + 2));
            }
            map.at(2);
            map.value();
            Check.put(map, row(20), row(21, 22));
            String what = "3: full with " + limits[0] + ", " + limits[1];
            Check.due(what, STATE, () -> Check.put(map, row(15), EMPTY));
            Check.due(what, STATE, () -> Check.put(map, row(10, 0), row(1)));
            Check.due(what + ": longest", STATE, () -> Check.put(map, Check.filled(64, 1), Check.filled(512, 1)));
            if (limits[1] == 3) {
                Check.due(what + ": in place", STATE, () -> Check.put(map, row(10), Check.filled(16, 1)));
                Check.due(what + ": in place of the current", STATE, () -> Check.put(map, row(20), Check.filled(512, 1)));
            }
            Check.due(what + ": not there", false, () -> Check.remove(map, row(15)));
            dueThreeAsMade(what, map);
        }
    }

    /** 4: its value is the result, its entry current: how many bytes that has. */
    private static void getFromEmptyToLongest() {
        OrderedBytes map = three();
        int[] lengths = {0, 1, 512};
        for (int k = 0; k < 3; k++) {
            Check.put(map, row(10 * k + 10), Check.filled(lengths[k], k));
        }
        for (int k = 0; k < 3; k++) {
            byte[] key = row(10 * k + 10);
            Check.due("4: value of " + lengths[k], lengths[k], () -> Check.get(map, key));
            Check.dueResult("4: value of " + lengths[k], map, Check.filled(lengths[k], k));
            Check.due("4: current", k, map::place);
        }
    }

    /** 4: IllegalArgumentException, when it is no key. */
    private static void getNoKey() {
        for (int length : new int[] {0, 65, 66, 600}) {
            OrderedBytes map = three();
            Check.due("4: key of " + length, ARGUMENT, () -> Check.get(map, Check.filled(length, 20)));
            dueThreeAsMade("4: key of " + length, map);
            Check.due("4: in an empty map, key of " + length, ARGUMENT, () -> Check.get(large(), Check.filled(length, 20)));
        }
    }

    /** 4: NoSuchElementException, when there is no such entry (result and current stay). */
    private static void getNoSuchEntry() {
        for (byte[] key : List.of(row(0), row(9), row(11), row(20, 0), row(31), row(255), new byte[64], row(20, 21, 22))) {
            OrderedBytes map = three();
            Check.due("4: no such entry", NO_ELEMENT, () -> Check.get(map, key));
            dueThreeAsMade("4: no such entry", map);
        }
        Check.due("4: an empty map", NO_ELEMENT, () -> Check.get(large(), row(1)));
        OrderedBytes map = large();
        Check.put(map, row(5, 5), EMPTY);
        Check.due("4: the beginning of a key", NO_ELEMENT, () -> Check.get(map, row(5)));
        Check.remove(map, row(5, 5));
        Check.due("4: removed", NO_ELEMENT, () -> Check.get(map, row(5, 5)));
    }

    /** 5: its entry is removed: whether there was one. */
    private static void removeWhetherThereWasOne() {
        Check.due("5: an empty map", false, () -> Check.remove(large(), row(1)));
        OrderedBytes map = three();
        Check.due("5: none", false, () -> Check.remove(map, row(20, 0)));
        Check.due("5: none", false, () -> Check.remove(map, new byte[64]));
        dueThreeAsMade("5: none", map);
        int left = 3;
        for (int key : new int[] {10, 30, 20}) {
            left--;
            Check.due("5: there is " + key, true, () -> Check.remove(map, row(key)));
            Check.due("5: no more " + key, false, () -> Check.remove(map, row(key)));
            Check.due("5: counts", List.of(left, left, left, 2 * left), () -> counts(map));
            Check.due("5: sound", true, map::sound);
        }
    }

    /** 5: IllegalArgumentException, when it is no key. */
    private static void removeNoKey() {
        for (int length : new int[] {0, 65, 66, 600}) {
            OrderedBytes map = three();
            Check.due("5: key of " + length, ARGUMENT, () -> Check.remove(map, Check.filled(length, 20)));
            dueThreeAsMade("5: key of " + length, map);
            Check.due("5: in an empty map, key of " + length, ARGUMENT, () -> Check.remove(large(), Check.filled(length, 20)));
        }
    }

    /** 6: the least key that is not below it (how 0), that is above it (1), the greatest that is not above it (2), that is below it (3). */
    private static void seekAtTheEnds() {
        Object[][] wanted = {
            {row(10), 10, 20, 10, NO_ELEMENT},
            {row(10, 0), 20, 20, 10, 10},
            {row(20), 20, 30, 20, 10},
            {row(19, 255), 20, 20, 10, 10},
            {row(30), 30, NO_ELEMENT, 30, 20},
            {new byte[64], 10, 10, NO_ELEMENT, NO_ELEMENT},
            {row(255), NO_ELEMENT, NO_ELEMENT, 30, 30},
        };
        for (Object[] row : wanted) {
            for (int how = 0; how < 4; how++) {
                if (row[how + 1] instanceof Integer key) {
                    dueSought(three(), (byte[]) row[0], how, key);
                } else {
                    dueNotSought(three(), (byte[]) row[0], how);
                }
            }
        }
    }

    private static void dueSought(OrderedBytes map, byte[] from, int how, int want) {
        String what = "6: seek " + how + " from " + Arrays.toString(from);
        Check.due(what, 1, () -> Check.seek(map, from, how));
        Check.dueResult(what, map, row(want));
        Check.due(what + ": current", want / 10 - 1, map::place);
    }

    /** 6: NoSuchElementException, when there is none (result and current stay). */
    private static void dueNotSought(OrderedBytes map, byte[] from, int how) {
        String what = "6: seek " + how + " from " + Arrays.toString(from);
        Check.due(what, NO_ELEMENT, () -> Check.seek(map, from, how));
        dueThreeAsMade(what, map);
    }

    private static void seekNone() {
        for (int how = 0; how < 4; how++) {
            int way = how;
            Check.due("6: an empty map, seek " + how, NO_ELEMENT, () -> Check.seek(large(), row(1), way));
            OrderedBytes one = large();
            Check.put(one, row(7), EMPTY);
            Check.due("6: one entry, seek " + how, how % 2 == 0 ? 1 : NO_ELEMENT, () -> Check.seek(one, row(7), way));
        }
    }

    /** 6: IllegalArgumentException, when it is no key, or for another how. */
    private static void seekWrong() {
        for (int how : new int[] {LEAST, -2, -1, 4, 5, 256, MOST}) {
            OrderedBytes map = three();
            Check.due("6: seek " + how, ARGUMENT, () -> Check.seek(map, row(20), how));
            Check.due("6: seek " + how + " no key", ARGUMENT, () -> map.seek(how));
            dueThreeAsMade("6: seek " + how, map);
            Check.due("6: an empty map, seek " + how, ARGUMENT, () -> Check.seek(large(), row(20), how));
        }
        for (int how = 0; how < 4; how++) {
            for (int length : new int[] {0, 65, 66, 600}) {
                OrderedBytes map = three();
                int way = how;
                Check.due("6: key of " + length, ARGUMENT, () -> Check.seek(map, Check.filled(length, 20), way));
                dueThreeAsMade("6: key of " + length, map);
                Check.due("6: an empty map, key of " + length, ARGUMENT, () -> Check.seek(large(), Check.filled(length, 20), way));
            }
        }
    }

    /** 7: The entry at place k in the order (from 0). IndexOutOfBoundsException, when there is none. */
    private static void atTheEnds() {
        for (int k : new int[] {LEAST, LEAST + 1, -2, -1, 3, 4, 1024, MOST - 1, MOST}) {
            OrderedBytes map = three();
            Check.due("7: at " + k, INDEX, () -> map.at(k));
            dueThreeAsMade("7: at " + k, map);
            Check.due("7: an empty map, at " + k, INDEX, () -> large().at(k));
        }
        Check.due("7: an empty map, at 0", INDEX, () -> large().at(0));
        OrderedBytes map = three();
        Check.due("7: the first", 1, () -> map.at(0));
        Check.dueResult("7: the first", map, row(10));
        Check.due("7: the last", 1, () -> map.at(2));
        Check.dueResult("7: the last", map, row(30));
        Check.put(map, Check.filled(64, 40), EMPTY);
        Check.due("7: the longest key", 64, () -> map.at(3));
        Check.dueResult("7: the longest key", map, Check.filled(64, 40));
        Check.due("7: the next", INDEX, () -> map.at(4));
    }

    /** 8: The next entry (...) (the one before, when back): whether there is one (else all stays). */
    private static void stepAtTheEnds() {
        for (boolean back : new boolean[] {false, true}) {
            OrderedBytes one = large();
            Check.put(one, row(7), row(8));
            one.value();
            Check.due("8: one entry", false, () -> one.step(back));
            Check.due("8: it stays current", 0, one::place);
            Check.dueResult("8: the result stays", one, row(8));
            OrderedBytes map = three();
            Check.due("8: a step", true, () -> map.step(back));
            Check.dueResult("8: its key", map, row(back ? 10 : 30));
            Check.due("8: current", back ? 0 : 2, map::place);
            map.value();
            Check.due("8: no step more", false, () -> map.step(back));
            Check.due("8: no step more, again", false, () -> map.step(back));
            Check.due("8: current stays", back ? 0 : 2, map::place);
            Check.dueResult("8: the result stays", map, back ? row(11, 12) : row(31, 32));
            Check.due("8: and back", true, () -> map.step(!back));
            Check.dueResult("8: its key", map, row(20));
        }
    }

    /** 8: IllegalStateException, when none is current. */
    private static void stepNoneIsCurrent() {
        for (boolean back : new boolean[] {false, true}) {
            Check.due("8: an empty map", STATE, () -> large().step(back));
            OrderedBytes map = three();
            Check.remove(map, row(20));
            Check.due("8: removed", STATE, () -> map.step(back));
            Check.dueResult("8: the result stays", map, row(31, 32));
            Check.due("8: still none", STATE, () -> map.step(back));
        }
    }

    /** 9: how many bytes it has. IllegalStateException, when none is current. */
    private static void valueAtTheEnds() {
        Check.due("9: an empty map", STATE, () -> large().value());
        OrderedBytes map = three();
        map.removeFrom(0);
        Check.due("9: removed", STATE, map::value);
        Check.dueResult("9: the result stays", map, row(31, 32));
        for (int length : new int[] {0, 1, 15, 16, 511, 512}) {
            Check.put(map, row(20), Check.filled(length, length));
            Check.due("9: value of " + length, length, map::value);
            Check.due("9: result of " + length, length, () -> map.count(5));
            Check.dueResult("9: value of " + length, map, Check.filled(length, length));
        }
    }

    /** 10: The place of the current entry in the order. IllegalStateException, when none is current. */
    private static void placeAtTheEnds() {
        Check.due("10: an empty map", STATE, () -> large().place());
        OrderedBytes map = large();
        for (int i = 0; i < 60; i++) {
            int key = i * 37 % 60;
            Check.put(map, row(key + 1), EMPTY);
        }
        Check.put(map, row(0), EMPTY);
        Check.due("10: the first", 0, map::place);
        Check.put(map, row(255), EMPTY);
        Check.due("10: the last", 61, map::place);
        for (int k = 0; k < 62; k++) {
            map.at(k);
            Check.due("10: at " + k, k, map::place);
        }
        map.removeFrom(0);
        Check.due("10: removed", STATE, map::place);
    }

    /** 11: Reads the tape as a key (an empty one as the end of all). */
    private static void rangeToTheEndOfAll() {
        OrderedBytes map = three();
        Check.put(map, Check.filled(64, 255), EMPTY);
        for (int k = 0; k < 4; k++) {
            map.at(k);
            Check.due("11: from " + k + " to the end of all", 4 - k, map::range);
            Check.due("11: current stays", k, map::place);
        }
    }

    /** 11: how many entries have keys that are not below the current one's and below it. */
    private static void rangeNotBelowAndBelow() {
        int[][] keys = {{0}, {10}, {10, 0}, {20}, {20, 0}, {29, 255}, {30}, {30, 0}, {255}};
        int[][] wanted = {{0, 0, 1, 1, 2, 2, 2, 3, 3}, {0, 0, 0, 0, 1, 1, 1, 2, 2}, {0, 0, 0, 0, 0, 0, 0, 1, 1}};
        for (int k = 0; k < 3; k++) {
            for (int i = 0; i < keys.length; i++) {
                OrderedBytes map = three();
                byte[] key = row(keys[i]);
                map.at(k);
                Check.due("11: from " + k + " to " + Arrays.toString(key), wanted[k][i], () -> Check.range(map, key));
            }
        }
        OrderedBytes map = three();
        Check.due("11: to the longest", 0, () -> Check.range(map, new byte[64]));
        Check.due("11: to the longest above all", 2, () -> Check.range(map, Check.joined(row(255), new byte[63])));
        dueThreeAsMade("11: range", map);
    }

    /** 11: IllegalArgumentException, when it is longer than a key; IllegalStateException, when none is current. */
    private static void rangeWrong() {
        for (int length : new int[] {65, 66, 600}) {
            OrderedBytes map = three();
            Check.due("11: key of " + length, ARGUMENT, () -> Check.range(map, Check.filled(length, 20)));
            dueThreeAsMade("11: key of " + length, map);
        }
        for (int length : new int[] {0, 1, 64}) {
            Check.due("11: an empty map, " + length, STATE, () -> Check.range(large(), Check.filled(length, 20)));
            OrderedBytes map = three();
            Check.remove(map, row(20));
            Check.due("11: removed, " + length, STATE, () -> Check.range(map, Check.filled(length, 20)));
        }
    }

    /** 12: The current entry is removed (none is current then), and all n behind it (at least 0), as far as there are. */
    private static void removeFromAsFarAsThereAre() {
        int[][] wanted = {{0, 0, 1}, {0, 1, 2}, {0, 2, 3}, {0, 3, 3}, {0, MOST, 3}, {0, MOST - 1, 3},
            {1, 0, 1}, {1, 1, 2}, {1, 2, 2}, {1, MOST, 2}, {2, 0, 1}, {2, 1, 1}, {2, MOST, 1}};
        for (int[] row : wanted) {
            OrderedBytes map = three();
            map.at(row[0]);
            String what = "12: at " + row[0] + ", removeFrom " + row[1];
            Check.due(what, row[2], () -> map.removeFrom(row[1]));
            int left = 3 - row[2];
            Check.due(what + ": counts", List.of(left, left, left, 2 * left), () -> counts(map));
            Check.due(what + ": none is current", STATE, () -> map.removeFrom(row[1]));
            for (int k = 0; k < left; k++) {
                map.at(k);
                Check.dueResult(what + ": left at " + k, map, row(10 * (k < row[0] ? k : k + row[2]) + 10));
            }
            Check.due(what + ": sound", true, map::sound);
        }
    }

    /** 12: IllegalArgumentException, when n is below 0; IllegalStateException, when none is current. */
    private static void removeFromWrong() {
        for (int n : new int[] {LEAST, LEAST + 1, -2, -1}) {
            OrderedBytes map = three();
            Check.due("12: removeFrom " + n, ARGUMENT, () -> map.removeFrom(n));
            dueThreeAsMade("12: removeFrom " + n, map);
        }
        for (int n : new int[] {0, 1, MOST}) {
            Check.due("12: an empty map, " + n, STATE, () -> large().removeFrom(n));
            OrderedBytes map = three();
            Check.remove(map, row(20));
            Check.due("12: removed, " + n, STATE, () -> map.removeFrom(n));
            Check.due("12: two stay", 2, () -> map.count(0));
        }
    }

    /** 13: All entries are gone, none is current: how many there were. */
    private static void clearHowManyThereWere() {
        Check.due("13: an empty map", 0, () -> large().clear());
        OrderedBytes one = new OrderedBytes(1, 1);
        Check.put(one, row(1), EMPTY);
        Check.due("13: one", 1, one::clear);
        OrderedBytes map = three();
        Check.due("13: three", 3, map::clear);
        Check.due("13: none", 0, map::clear);
        Check.due("13: counts", List.of(0, 0, 0, 0), () -> counts(map));
        Check.due("13: none is current", STATE, map::place);
        Check.due("13: no first", INDEX, () -> map.at(0));
        Check.due("13: gone", NO_ELEMENT, () -> Check.get(map, row(20)));
        Check.due("13: sound", true, map::sound);
    }

    private static void clearLeavesAllRoom() {
        OrderedBytes map = new OrderedBytes(3, 40);
        for (int round = 0; round < 3; round++) {
            byte[] value = Check.filled(512, round);
            Check.due("13: longest", true, () -> Check.put(map, row(1), value));
            Check.due("13: the rest", true, () -> Check.put(map, row(2), Check.filled(111, 1)));
            Check.due("13: full", STATE, () -> Check.put(map, row(3), EMPTY));
            Check.due("13: its value", 512, () -> Check.get(map, row(1)));
            Check.dueResult("13: its value", map, value);
            Check.due("13: two", 2, map::clear);
            Check.due("13: sound", true, map::sound);
        }
    }

    /** 14: IndexOutOfBoundsException, when there is none. */
    private static void byteAtTheEnds() {
        OrderedBytes map = large();
        for (int length : new int[] {512, 511, 64, 1, 0}) {
            byte[] value = Check.filled(length, 3);
            Check.put(map, row(1), value);
            map.value();
            if (length > 0) {
                Check.due("14: first of " + length, value[0] & 255, () -> map.byteAt(0));
                Check.due("14: last of " + length, value[length - 1] & 255, () -> map.byteAt(length - 1));
            }
            for (int i : new int[] {LEAST, LEAST + 1, -512, -1, length, length + 1, 512, 513, MOST - 1, MOST}) {
                Check.due("14: byte " + i + " of " + length, INDEX, () -> map.byteAt(i));
            }
        }
    }

    /** 14: Byte i (its value is 0 .. 255) of the result. */
    private static void byteValues() {
        OrderedBytes map = large();
        byte[] all = new byte[256];
        for (int i = 0; i < 256; i++) {
            all[i] = (byte) i;
        }
        Check.put(map, row(1), all);
        map.value();
        for (int i = 0; i < 256; i++) {
            int index = i;
            Check.due("14: byte of value " + i, i, () -> map.byteAt(index));
        }
    }

    /** 15: NONE for another what. */
    private static void countNoneForAnother() {
        for (int what : new int[] {LEAST, -6, -1, 6, 7, 256, MOST}) {
            Check.due("15: an empty map, count " + what, -1, () -> large().count(what));
            Check.due("15: count " + what, -1, () -> three().count(what));
        }
    }

    /** 15: How many entries there are (0), units they take (1), bytes their keys (2) and values have (3), bytes on the tape (4), in the result (5). */
    private static void countFromEmptyToFull() {
        OrderedBytes map = new OrderedBytes(2, 37);
        dueAllCounts("new", map, 0, 0, 0, 0, 0, 0);
        Check.put(map, Check.filled(64, 1), Check.filled(512, 1));
        dueAllCounts("longest", map, 1, 36, 64, 512, 0, 0);
        map.value();
        Check.put(map, row(0), EMPTY);
        dueAllCounts("full", map, 2, 37, 65, 512, 0, 512);
        map.feed(0, 8);
        Check.answer(() -> map.feed(0, 9));
        dueAllCounts("fed", map, 2, 37, 65, 512, 8, 512);
        Check.answer(map::get);
        dueAllCounts("read", map, 2, 37, 65, 512, 0, 512);
        Check.put(map, Check.filled(64, 1), row(1));
        dueAllCounts("a shorter value", map, 2, 6, 65, 1, 0, 512);
        map.at(1);
        dueAllCounts("its key", map, 2, 6, 65, 1, 0, 64);
        map.removeFrom(0);
        dueAllCounts("removed", map, 1, 1, 1, 0, 0, 64);
        Check.get(map, row(0));
        dueAllCounts("an empty result", map, 1, 1, 1, 0, 0, 0);
        map.clear();
        dueAllCounts("cleared", map, 0, 0, 0, 0, 0, 0);
    }

    private static void dueAllCounts(String what, OrderedBytes map, Integer... want) {
        Check.due("15: " + what, Arrays.asList(want), () -> Arrays.asList(
            map.count(0), map.count(1), map.count(2), map.count(3), map.count(4), map.count(5)));
    }

    /** 16: they always are. */
    private static void soundInEveryCorner() {
        Check.due("16: least", true, new OrderedBytes(LEAST, LEAST)::sound);
        Check.due("16: most", true, new OrderedBytes(MOST, MOST)::sound);
        OrderedBytes map = new OrderedBytes(40, 80);
        for (int round = 0; round < 4; round++) {
            for (int i = 0; i < 12; i++) {
                int key = (i * 5 + round * 7) % 29;
                Check.answer(() -> Check.put(map, row(key), Check.filled(key * 11 % 60, key)));
                Check.due("16: put " + key, true, map::sound);
            }
            Check.answer(() -> Check.put(map, row(99), Check.filled(512, 1)));
            Check.due("16: a long one", true, map::sound);
            map.at(4 * round);
            Check.answer(() -> map.removeFrom(3));
            Check.due("16: removeFrom", true, map::sound);
        }
        map.clear();
        Check.due("16: cleared", true, map::sound);
    }
}
