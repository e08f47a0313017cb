import java.util.Arrays;
import java.util.NoSuchElementException;

/** Each promise of the document: ordinary inputs, the edges that the document names, and wrong inputs. */
public final class PromisesTest {
    private static final Class<?> ARGUMENT = IllegalArgumentException.class;
    private static final Class<?> STATE = IllegalStateException.class;
    private static final Class<?> INDEX = IndexOutOfBoundsException.class;
    private static final Class<?> NO_ELEMENT = NoSuchElementException.class;
    private static final byte[] EMPTY = {};

    private PromisesTest() {
    }

    public static void main(String[] args) {
        newObject();
        limitsOfNewObject();
        feed();
        put();
        putWrong();
        putFull();
        putIntoScatteredHeap();
        get();
        remove();
        seek();
        at();
        step();
        value();
        place();
        range();
        removeFrom();
        clear();
        byteAt();
        count();
        sound();
        theOrder();
        Check.end();
    }

    private static byte[] key(int... bytes) {
        return Check.row(bytes);
    }

    /** Entries with the keys 10, 20, 30, 40, each with a value of as many bytes as its place. */
    private static OrderedBytes fourEntries() {
        OrderedBytes map = new OrderedBytes(100, 100);
        for (int i : new int[] {2, 0, 3, 1}) {
            Check.put(map, key(10 * (i + 1)), Check.filled(i, i));
        }
        return map;
    }

    private static void dueCounts(String what, OrderedBytes map, Integer... want) {
        Check.due(what + ": the counts", Arrays.asList(want), () -> Arrays.asList(
            map.count(0), map.count(1), map.count(2), map.count(3)));
    }

    private static void newObject() {
        OrderedBytes map = new OrderedBytes(10, 10);
        Check.due("1: NONE", -1, () -> OrderedBytes.NONE);
        dueCounts("1: a new object", map, 0, 0, 0, 0);
        Check.due("1: the tape", 0, () -> map.count(4));
        Check.due("1: the result", 0, () -> map.count(5));
        Check.due("1: none is current", STATE, map::place);
        Check.due("1: sound", true, map::sound);
    }

    private static void limitsOfNewObject() {
        dueEntryLimit(Integer.MIN_VALUE, 1);
        dueEntryLimit(0, 1);
        dueEntryLimit(1, 1);
        dueEntryLimit(7, 7);
        dueUnitLimit(Integer.MIN_VALUE, 1);
        dueUnitLimit(0, 1);
        dueUnitLimit(20, 20);
        dueMostEntries(1024);
        dueMostEntries(1025);
        dueMostEntries(Integer.MAX_VALUE);
        dueMostUnits(4096);
        dueMostUnits(4097);
        dueMostUnits(Integer.MAX_VALUE);
    }

    private static void dueEntryLimit(int asked, int want) {
        OrderedBytes map = new OrderedBytes(asked, 4096);
        for (int i = 0; i < want; i++) {
            byte[] key = key(i);
            Check.due("1: entry " + i + " of " + asked, true, () -> Check.put(map, key, EMPTY));
        }
        Check.due("1: one more than " + asked, STATE, () -> Check.put(map, key(255), EMPTY));
    }

    private static void dueUnitLimit(int asked, int want) {
        OrderedBytes map = new OrderedBytes(1024, asked);
        Check.due("1: all units of " + asked, true, () -> Check.put(map, key(1), new byte[16 * want - 1]));
        Check.due("1: one unit more than " + asked, STATE, () -> Check.put(map, key(2), EMPTY));
    }

    /** More than 512 calls: what they answer is free, but that the limit is 1024 shows nowhere else. */
    private static void dueMostEntries(int asked) {
        OrderedBytes map = new OrderedBytes(asked, 4096);
        for (int i = 0; i < 1024; i++) {
            byte[] key = key(i >> 8, i);
            Check.due("1: entry " + i + " of " + asked, true, () -> Check.put(map, key, EMPTY));
        }
        Check.due("1: entry 1025 of " + asked, STATE, () -> Check.put(map, key(9), EMPTY));
    }

    /** More than 512 calls, as above. */
    private static void dueMostUnits(int asked) {
        OrderedBytes map = new OrderedBytes(1024, asked);
        for (int i = 0; i < 128; i++) {
            byte[] key = key(i);
            Check.put(map, key, new byte[511]);
        }
        Check.due("1: units of " + asked, 4096, () -> map.count(1));
        Check.due("1: unit 4097 of " + asked, STATE, () -> Check.put(map, key(200), EMPTY));
    }

    private static void feed() {
        OrderedBytes map = new OrderedBytes(10, 100);
        Check.due("2: three bytes", 3, () -> map.feed(0x7766554433FF8001L, 3));
        Check.due("2: eight more", 11, () -> map.feed(0x8877665544332211L, 8));
        for (int n : new int[] {0, 9, -1, Integer.MIN_VALUE, Integer.MAX_VALUE}) {
            Check.due("2: n " + n, ARGUMENT, () -> map.feed(1, n));
        }
        Check.due("2: the tape stays", 11, () -> map.count(4));
        map.put(3);
        map.value();
        Check.dueResult("2: the value", map, key(0x11, 0x22, 0x33, 0x44, 0x55, 0x66, 0x77, 0x88));
        map.at(0);
        Check.dueResult("2: the key", map, key(0x01, 0x80, 0xFF));
        feedToTheEnd();
    }

    private static void feedToTheEnd() {
        OrderedBytes map = new OrderedBytes(10, 100);
        for (int i = 1; i <= 74; i++) {
            map.feed(i, 8);
        }
        Check.due("2: 599 bytes", 599, () -> map.feed(1, 7));
        Check.due("2: 601 bytes", STATE, () -> map.feed(1, 2));
        Check.due("2: 607 bytes", STATE, () -> map.feed(1, 8));
        Check.due("2: 599 stay", 599, () -> map.count(4));
        Check.due("2: 600 bytes", 600, () -> map.feed(1, 1));
        Check.due("2: one more", STATE, () -> map.feed(1, 1));
        Check.due("2: a wrong n comes first", ARGUMENT, () -> map.feed(1, 9));
        Check.due("2: 600 stay", 600, () -> map.count(4));
    }

    private static void put() {
        OrderedBytes map = new OrderedBytes(10, 100);
        Check.due("3: a new one", true, () -> Check.put(map, key(5, 6), Check.filled(20, 1)));
        Check.due("3: it is current", 20, map::value);
        Check.dueResult("3: value", map, Check.filled(20, 1));
        Check.due("3: the tape is read", 0, () -> map.count(4));
        Check.due("3: another", true, () -> Check.put(map, key(5), EMPTY));
        Check.due("3: the other is current", 0, map::place);
        Check.dueResult("3: put leaves the result", map, Check.filled(20, 1));
        dueReplaced(map, 14);
        dueReplaced(map, 15);
        dueReplaced(map, 300);
        dueReplaced(map, 0);
        Check.due("3: longest key and value", true, () -> Check.put(map, Check.filled(64, 9), Check.filled(512, 3)));
        Check.due("3: its value", 512, map::value);
        Check.dueResult("3: longest value", map, Check.filled(512, 3));
        dueCounts("3: all", map, 3, 1 + 1 + 36, 1 + 2 + 64, 512);
    }

    private static void dueReplaced(OrderedBytes map, int length) {
        Check.due("3: in place", false, () -> Check.put(map, key(5, 6), Check.filled(length, length)));
        Check.due("3: it is current again", 1, map::place);
        map.value();
        Check.dueResult("3: the value in place", map, Check.filled(length, length));
        dueCounts("3: value in place", map, 2, 1 + (2 + length + 15) / 16, 3, length);
        Check.due("3: sound", true, map::sound);
    }

    private static void putWrong() {
        OrderedBytes map = fourEntries();
        map.at(1);
        for (int k : new int[] {0, -1, 4, 65, Integer.MIN_VALUE, Integer.MAX_VALUE}) {
            map.feed(0x0A0B0C, 3);
            Check.due("3: key of " + k, ARGUMENT, () -> map.put(k));
            Check.due("3: the tape is read", 0, () -> map.count(4));
        }
        Check.due("3: nothing on the tape", ARGUMENT, () -> map.put(1));
        Check.feed(map, new byte[100]);
        Check.due("3: key of 65", ARGUMENT, () -> map.put(65));
        Check.feed(map, new byte[514]);
        Check.due("3: value of 513", ARGUMENT, () -> map.put(1));
        Check.feed(map, new byte[600]);
        Check.due("3: value of 599", ARGUMENT, () -> map.put(1));
        Check.due("3: current stays", 1, map::place);
        dueCounts("3: all stays", map, 4, 4, 4, 6);
    }

    private static void putFull() {
        OrderedBytes map = new OrderedBytes(2, 4);
        Check.put(map, key(1), Check.filled(15, 1));
        Check.put(map, key(2), Check.filled(15, 2));
        map.at(0);
        Check.due("3: a third entry", STATE, () -> Check.put(map, key(3), EMPTY));
        Check.due("3: the tape is read", 0, () -> map.count(4));
        Check.due("3: a fifth unit", STATE, () -> Check.put(map, key(2), Check.filled(48, 1)));
        Check.due("3: current stays", 0, map::place);
        Check.dueResult("3: the result stays", map, key(1));
        dueCounts("3: all stays", map, 2, 2, 2, 30);
        Check.get(map, key(2));
        Check.dueResult("3: the value stays", map, Check.filled(15, 2));
        map.feed(1, 1);
        Check.due("3: wrong before full", ARGUMENT, () -> map.put(2));
        Check.due("3: just full", false, () -> Check.put(map, key(2), Check.filled(47, 5)));
        Check.due("3: full, the same again", false, () -> Check.put(map, key(2), Check.filled(47, 6)));
        map.value();
        Check.dueResult("3: the value", map, Check.filled(47, 6));
        Check.due("3: sound", true, map::sound);
    }

    private static void putIntoScatteredHeap() {
        OrderedBytes map = new OrderedBytes(50, 40);
        for (int i = 0; i < 40; i++) {
            Check.put(map, key(i), Check.filled(15, i));
        }
        for (int i = 0; i < 40; i += 2) {
            Check.remove(map, key(i));
        }
        Check.due("3: units are free, but not side by side", true, () -> Check.put(map, key(99), Check.filled(319, 7)));
        map.value();
        Check.dueResult("3: its value", map, Check.filled(319, 7));
        for (int i = 1; i < 40; i += 2) {
            Check.get(map, key(i));
            Check.dueResult("3: value " + i + " after it", map, Check.filled(15, i));
        }
        Check.due("3: sound", true, map::sound);
        Check.due("3: full", STATE, () -> Check.put(map, key(100), EMPTY));
    }

    private static void get() {
        OrderedBytes map = fourEntries();
        Check.due("4: a value", 3, () -> Check.get(map, key(40)));
        Check.dueResult("4: value", map, Check.filled(3, 3));
        Check.due("4: it is current", 3, map::place);
        Check.due("4: no such entry", NO_ELEMENT, () -> Check.get(map, key(41)));
        Check.due("4: a longer key", NO_ELEMENT, () -> Check.get(map, key(40, 0)));
        Check.due("4: the tape is read", 0, () -> map.count(4));
        Check.due("4: no key", ARGUMENT, map::get);
        Check.due("4: key of 65", ARGUMENT, () -> Check.get(map, new byte[65]));
        Check.due("4: key of 64", NO_ELEMENT, () -> Check.get(map, new byte[64]));
        Check.due("4: current stays", 3, map::place);
        Check.dueResult("4: the result stays", map, Check.filled(3, 3));
        Check.due("4: an empty value", 0, () -> Check.get(map, key(10)));
        Check.dueResult("4: empty value", map, EMPTY);
    }

    private static void remove() {
        OrderedBytes map = fourEntries();
        map.at(2);
        Check.due("5: one before the current", true, () -> Check.remove(map, key(20)));
        Check.due("5: the current's place", 1, map::place);
        Check.dueResult("5: the result stays", map, key(30));
        dueCounts("5: three", map, 3, 3, 3, 5);
        Check.due("5: no longer there", false, () -> Check.remove(map, key(20)));
        Check.due("5: the tape is read", 0, () -> map.count(4));
        Check.due("5: no key", ARGUMENT, map::remove);
        Check.due("5: key of 65", ARGUMENT, () -> Check.remove(map, new byte[65]));
        Check.due("5: the tape is read when it throws", 0, () -> map.count(4));
        Check.due("5: the current", true, () -> Check.remove(map, key(30)));
        Check.due("5: none is current", STATE, map::value);
        Check.due("5: none is current", STATE, () -> map.step(false));
        Check.dueResult("5: the result stays", map, key(30));
        Check.due("5: gone", NO_ELEMENT, () -> Check.get(map, key(30)));
        Check.due("5: sound", true, map::sound);
        currentSurvivesRemovals();
    }

    /** Whatever is removed above, below or beside it in the tree, the current entry must stay. */
    private static void currentSurvivesRemovals() {
        for (int kept = 0; kept < 60; kept += 7) {
            OrderedBytes map = new OrderedBytes(100, 100);
            for (int i = 0; i < 60; i++) {
                Check.put(map, key(i * 37 % 60), key(i * 37 % 60));
            }
            int place = kept;
            Check.seek(map, key(kept), 0);
            for (int i = 0; i < 60; i++) {
                int gone = i * 23 % 60;
                if (gone != kept) {
                    place -= gone < kept ? 1 : 0;
                    Check.remove(map, key(gone));
                    Check.due("5: the place of " + kept + " without " + gone, place, map::place);
                }
            }
            map.value();
            Check.dueResult("5: the value of " + kept, map, key(kept));
        }
    }

    private static void seek() {
        OrderedBytes map = fourEntries();
        Object[][] wanted = {
            {9, 10, 10, NO_ELEMENT, NO_ELEMENT},
            {10, 10, 20, 10, NO_ELEMENT},
            {11, 20, 20, 10, 10},
            {20, 20, 30, 20, 10},
            {40, 40, NO_ELEMENT, 40, 30},
            {41, NO_ELEMENT, NO_ELEMENT, 40, 40},
        };
        for (Object[] row : wanted) {
            for (int how = 0; how < 4; how++) {
                dueSought(map, (Integer) row[0], how, row[how + 1]);
            }
        }
        Check.due("6: a longer key", 1, () -> Check.seek(map, key(20, 0), 3));
        Check.dueResult("6: below the longer one", map, key(20));
        Check.due("6: place", 1, map::place);
        dueSeekWrong(map);
    }

    private static void dueSought(OrderedBytes map, int key, int how, Object want) {
        String what = "6: seek " + how + " of " + key;
        map.at(2);
        if (want == NO_ELEMENT) {
            Check.due(what, NO_ELEMENT, () -> Check.seek(map, key(key), how));
            Check.dueResult(what, map, key(30));
            Check.due(what + ": current stays", 2, map::place);
        } else {
            Check.due(what, 1, () -> Check.seek(map, key(key), how));
            Check.dueResult(what, map, key((Integer) want));
            Check.due(what + ": place", (Integer) want / 10 - 1, map::place);
        }
        Check.due(what + ": the tape is read", 0, () -> map.count(4));
    }

    private static void dueSeekWrong(OrderedBytes map) {
        for (int how : new int[] {-1, 4, Integer.MIN_VALUE, Integer.MAX_VALUE}) {
            Check.due("6: how " + how, ARGUMENT, () -> Check.seek(map, key(20), how));
            Check.due("6: the tape is read", 0, () -> map.count(4));
        }
        Check.due("6: no key", ARGUMENT, () -> map.seek(0));
        Check.due("6: key of 65", ARGUMENT, () -> Check.seek(map, new byte[65], 0));
        Check.due("6: key of 64", 1, () -> Check.seek(map, new byte[64], 0));
        Check.due("6: an empty map", NO_ELEMENT, () -> Check.seek(new OrderedBytes(1, 1), key(1), 0));
    }

    private static void at() {
        OrderedBytes map = fourEntries();
        Check.put(map, key(20, 1), EMPTY);
        int[][] keys = {{10}, {20}, {20, 1}, {30}, {40}};
        for (int k = 0; k < 5; k++) {
            int place = k;
            Check.due("7: at " + k, keys[k].length, () -> map.at(place));
            Check.dueResult("7: at " + k, map, key(keys[k]));
            Check.due("7: current", k, map::place);
        }
        for (int k : new int[] {-1, 5, Integer.MIN_VALUE, Integer.MAX_VALUE}) {
            Check.due("7: at " + k, INDEX, () -> map.at(k));
        }
        Check.due("7: current stays", 4, map::place);
        Check.dueResult("7: the result stays", map, key(40));
        Check.due("7: an empty map", INDEX, () -> new OrderedBytes(1, 1).at(0));
    }

    private static void step() {
        OrderedBytes map = fourEntries();
        map.at(0);
        for (int k = 1; k < 4; k++) {
            Check.due("8: on to " + k, true, () -> map.step(false));
            Check.dueResult("8: on to " + k, map, key(10 * (k + 1)));
            Check.due("8: place", k, map::place);
        }
        map.value();
        Check.due("8: none behind", false, () -> map.step(false));
        Check.dueResult("8: the result stays", map, Check.filled(3, 3));
        Check.due("8: current stays", 3, map::place);
        for (int k = 2; k >= 0; k--) {
            Check.due("8: back to " + k, true, () -> map.step(true));
            Check.dueResult("8: back to " + k, map, key(10 * (k + 1)));
        }
        Check.due("8: none before", false, () -> map.step(true));
        Check.due("8: current stays", 0, map::place);
        Check.due("8: none is current", STATE, () -> new OrderedBytes(1, 1).step(false));
        Check.due("8: none is current", STATE, () -> new OrderedBytes(1, 1).step(true));
    }

    private static void value() {
        OrderedBytes map = fourEntries();
        map.at(3);
        Check.due("9: value", 3, map::value);
        Check.dueResult("9: value", map, Check.filled(3, 3));
        Check.due("9: current stays", 3, map::place);
        Check.put(map, key(40), key(200, 255, 128, 127));
        Check.dueResult("9: the result stays when the value changes", map, Check.filled(3, 3));
        Check.due("9: the new value", 4, map::value);
        Check.dueResult("9: the new value", map, key(200, 255, 128, 127));
        map.at(0);
        Check.due("9: an empty value", 0, map::value);
        Check.due("9: nothing in it", 0, () -> map.count(5));
        Check.due("9: none is current", STATE, () -> new OrderedBytes(1, 1).value());
    }

    private static void place() {
        OrderedBytes map = fourEntries();
        Check.due("10: none is current", STATE, () -> new OrderedBytes(1, 1).place());
        map.at(2);
        Check.due("10: place", 2, map::place);
        Check.put(map, key(15), EMPTY);
        Check.due("10: of the new one", 1, map::place);
        Check.get(map, key(40));
        Check.due("10: the last", 4, map::place);
        Check.remove(map, key(10));
        Check.due("10: one before is gone", 3, map::place);
    }

    private static void range() {
        OrderedBytes map = fourEntries();
        map.at(1);
        Check.due("11: to all's end", 3, map::range);
        int[][] wanted = {{9, 0}, {20, 0}, {21, 1}, {30, 1}, {31, 2}, {40, 2}, {41, 3}, {255, 3}};
        for (int[] row : wanted) {
            Check.due("11: to " + row[0], row[1], () -> Check.range(map, key(row[0])));
            Check.due("11: the tape is read", 0, () -> map.count(4));
        }
        Check.due("11: to a longer key", 1, () -> Check.range(map, key(20, 0)));
        Check.due("11: key of 65", ARGUMENT, () -> Check.range(map, new byte[65]));
        Check.due("11: the tape is read when it throws", 0, () -> map.count(4));
        Check.due("11: key of 64", 0, () -> Check.range(map, new byte[64]));
        Check.due("11: current stays", 1, map::place);
        Check.remove(map, key(20));
        Check.due("11: none is current", STATE, () -> Check.range(map, key(1)));
        Check.due("11: the tape is read when it throws", 0, () -> map.count(4));
        Check.due("11: none is current", STATE, map::range);
        Check.due("11: a wrong key comes first", ARGUMENT, () -> Check.range(map, new byte[65]));
    }

    private static void removeFrom() {
        int[][] wanted = {{1, 0, 1}, {1, 1, 2}, {1, 2, 3}, {1, 3, 3}, {0, 3, 4}, {3, 0, 1}, {3, 9, 1},
            {2, Integer.MAX_VALUE, 2}, {0, Integer.MAX_VALUE, 4}};
        for (int[] row : wanted) {
            dueRemovedFrom(row[0], row[1], row[2]);
        }
        OrderedBytes map = fourEntries();
        Check.due("12: n -1", ARGUMENT, () -> map.removeFrom(-1));
        Check.due("12: least n", ARGUMENT, () -> map.removeFrom(Integer.MIN_VALUE));
        dueCounts("12: all stays", map, 4, 4, 4, 6);
        OrderedBytes empty = new OrderedBytes(1, 1);
        Check.due("12: none is current", STATE, () -> empty.removeFrom(0));
        Check.due("12: a wrong n comes first", ARGUMENT, () -> empty.removeFrom(-1));
    }

    private static void dueRemovedFrom(int place, int n, int want) {
        String what = "12: " + n + " behind " + place;
        OrderedBytes map = fourEntries();
        map.at(place);
        map.feed(1, 1);
        Check.due(what, want, () -> map.removeFrom(n));
        Check.due(what + ": none is current", STATE, map::place);
        Check.due(what + ": entries", 4 - want, () -> map.count(0));
        Check.due(what + ": units", 4 - want, () -> map.count(1));
        Check.due(what + ": the tape stays", 1, () -> map.count(4));
        Check.dueResult(what + ": the result stays", map, key(10 * (place + 1)));
        for (int k = 0; k < 4 - want; k++) {
            map.at(k);
            Check.dueResult(what + ": at " + k, map, key(10 * ((k < place ? k : k + want) + 1)));
        }
        Check.due(what + ": sound", true, map::sound);
    }

    private static void clear() {
        OrderedBytes map = fourEntries();
        map.at(1);
        map.feed(1, 2);
        Check.due("13: clear", 4, map::clear);
        dueCounts("13: nothing left", map, 0, 0, 0, 0);
        Check.due("13: none is current", STATE, map::value);
        Check.due("13: the tape stays", 2, () -> map.count(4));
        Check.dueResult("13: the result stays", map, key(20));
        Check.due("13: sound", true, map::sound);
        Check.due("13: clear again", 0, map::clear);
        map.feed(3, 1);
        Check.due("13: the map is used again", true, () -> map.put(3));
        map.at(0);
        Check.dueResult("13: a new entry", map, key(1, 0, 3));
    }

    private static void byteAt() {
        OrderedBytes map = new OrderedBytes(10, 10);
        Check.due("14: an empty result", INDEX, () -> map.byteAt(0));
        Check.put(map, key(7), key(0, 127, 128, 255));
        map.value();
        int[] want = {0, 127, 128, 255};
        for (int i = 0; i < 4; i++) {
            int index = i;
            Check.due("14: byte " + i, want[i], () -> map.byteAt(index));
        }
        for (int i : new int[] {4, -1, 511, 512, Integer.MIN_VALUE, Integer.MAX_VALUE}) {
            Check.due("14: byte " + i, INDEX, () -> map.byteAt(i));
        }
        map.at(0);
        Check.due("14: a shorter result", INDEX, () -> map.byteAt(1));
    }

    private static void count() {
        OrderedBytes map = new OrderedBytes(10, 100);
        Check.put(map, key(1), Check.filled(15, 1));
        Check.put(map, key(2), Check.filled(16, 1));
        Check.put(map, key(3, 3), EMPTY);
        map.feed(9, 5);
        map.at(2);
        int[] want = {3, 4, 4, 31, 5, 2};
        for (int what = 0; what < 6; what++) {
            int index = what;
            Check.due("15: count " + what, want[what], () -> map.count(index));
        }
        for (int what : new int[] {-1, 6, Integer.MIN_VALUE, Integer.MAX_VALUE}) {
            Check.due("15: count " + what, OrderedBytes.NONE, () -> map.count(what));
        }
    }

    /** Keys in rising, falling and mixed order; SoundTest tells that it would see what is broken. */
    private static void sound() {
        for (int stride : new int[] {1, 99, 37}) {
            OrderedBytes map = new OrderedBytes(100, 100);
            for (int i = 0; i < 100; i++) {
                Check.put(map, key(i * stride % 100), EMPTY);
                Check.due("16: with " + i, true, map::sound);
            }
            for (int i = 0; i < 50; i++) {
                Check.remove(map, key(i * 27 % 100));
                Check.due("16: without " + i, true, map::sound);
            }
        }
    }

    private static void theOrder() {
        int[][] rising = {{0}, {0, 0}, {0, 255}, {1}, {127}, {127, 127}, {128}, {128, 0, 0}, {128, 0, 1}, {255}, {255, 255}};
        OrderedBytes map = new OrderedBytes(20, 20);
        for (int i = 0; i < rising.length; i++) {
            Check.put(map, key(rising[i * 4 % rising.length]), EMPTY);
        }
        for (int i = 0; i < rising.length; i++) {
            map.at(i);
            Check.dueResult("order " + i, map, key(rising[i]));
        }
    }
}
