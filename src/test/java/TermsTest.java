import java.util.ArrayList;
import java.util.Arrays;
import java.util.List;
import java.util.NoSuchElementException;

/** The document's Terms: for each sentence that names a boundary a test of its own, with the sentence above it. */
public final class TermsTest {
    private static final Class<?> ARGUMENT = IllegalArgumentException.class;
    private static final Class<?> STATE = IllegalStateException.class;
    private static final Class<?> INDEX = IndexOutOfBoundsException.class;
    private static final Class<?> NO_ELEMENT = NoSuchElementException.class;
    private static final byte[] EMPTY = {};

    private TermsTest() {
    }

    public static void main(String[] args) {
        nothingThere();
        keysHave1To64Bytes();
        valuesHave0To512();
        valuesHave0To512WhateverTheKey();
        orderedByTheFirstBytesThatDiffer();
        bytesAre0To255InTheOrder();
        aBeginningComesFirst();
        noTwoHaveOneKey();
        unitsAreSixteensABrokenOneWhole();
        unitsOfKeyAndValueTogether();
        entriesAreFull();
        unitsAreFull();
        unitsAreFullForOneInPlace();
        fullEndsWhenThereIsRoomAgain();
        allUnitsCanBeTakenWhereverTheyLie();
        tapeIsEmptyAtFirst();
        tapeHasAtMost600();
        tapeIsEmptyWhenRead();
        tapeIsEmptyAlsoWhenTheyThrow();
        tapeStaysInOtherCalls();
        resultIsEmptyAtFirst();
        resultStaysWhereNoneIsPromised();
        currentIsNoneAtFirst();
        currentIsNoneWhenItIsRemoved();
        currentStaysWhenAnotherIsRemoved();
        Check.end();
    }

    private static byte[] row(int... bytes) {
        return Check.row(bytes);
    }

    private static OrderedBytes large() {
        return new OrderedBytes(1024, 4096);
    }

    /** The keys 10, 20, 30; at(1) is current and its key the result. */
    private static OrderedBytes three() {
        OrderedBytes map = large();
        for (int key : new int[] {20, 30, 10}) {
            Check.put(map, row(key), row(key + 1, key + 2));
        }
        map.at(1);
        return map;
    }

    /** NONE = -1: Nothing there. */
    private static void nothingThere() {
        Check.due("NONE", -1, () -> OrderedBytes.NONE);
    }

    /** KEYS have 1 to 64 bytes. */
    private static void keysHave1To64Bytes() {
        for (int length : new int[] {1, 2, 63, 64}) {
            OrderedBytes map = large();
            byte[] key = Check.filled(length, 1);
            Check.due("put, key of " + length, true, () -> Check.put(map, key, row(9)));
            Check.due("get, key of " + length, 1, () -> Check.get(map, key));
            Check.due("seek, key of " + length, length, () -> Check.seek(map, key, 0));
            Check.dueResult("key of " + length, map, key);
            Check.due("range, key of " + length, 0, () -> Check.range(map, key));
            Check.due("remove, key of " + length, true, () -> Check.remove(map, key));
        }
        for (int length : new int[] {0, 65, 66, 128, 600}) {
            OrderedBytes map = three();
            byte[] key = Check.filled(length, 1);
            Check.due("put, key of " + length, ARGUMENT, () -> Check.put(map, key, EMPTY));
            Check.due("get, key of " + length, ARGUMENT, () -> Check.get(map, key));
            Check.due("seek, key of " + length, ARGUMENT, () -> Check.seek(map, key, 0));
            Check.due("range, key of " + length, length == 0 ? 2 : ARGUMENT, () -> Check.range(map, key));
            Check.due("remove, key of " + length, ARGUMENT, () -> Check.remove(map, key));
        }
    }

    /** VALUES (have) 0 to 512. */
    private static void valuesHave0To512() {
        for (int length : new int[] {0, 1, 511, 512}) {
            OrderedBytes map = large();
            byte[] value = Check.filled(length, 5);
            Check.due("put, value of " + length, true, () -> Check.put(map, row(1), value));
            Check.due("get, value of " + length, length, () -> Check.get(map, row(1)));
            Check.dueResult("get, value of " + length, map, value);
            map.at(0);
            Check.due("value of " + length, length, map::value);
            Check.dueResult("value of " + length, map, value);
        }
        for (int length : new int[] {513, 514, 599}) {
            OrderedBytes map = large();
            Check.due("put, value of " + length, ARGUMENT, () -> Check.put(map, row(1), Check.filled(length, 5)));
            Check.due("no entry", 0, () -> map.count(0));
        }
    }

    /** The same for the longest key: 576 bytes are the most that an entry has, the tape may hold more. */
    private static void valuesHave0To512WhateverTheKey() {
        OrderedBytes map = large();
        byte[] key = Check.filled(64, 77);
        Check.due("64 and 512", true, () -> Check.put(map, key, Check.filled(512, 5)));
        Check.due("64 and 513", ARGUMENT, () -> Check.put(map, key, Check.filled(513, 6)));
        Check.due("64 and 536", ARGUMENT, () -> Check.put(map, key, Check.filled(536, 7)));
        Check.get(map, key);
        Check.dueResult("64 and 512", map, Check.filled(512, 5));
    }

    private static void dueBelow(byte[] low, byte[] high) {
        String what = Arrays.toString(low) + " below " + Arrays.toString(high);
        for (int first = 0; first < 2; first++) {
            OrderedBytes map = large();
            Check.put(map, first == 0 ? low : high, EMPTY);
            Check.put(map, first == 0 ? high : low, EMPTY);
            map.at(0);
            Check.dueResult(what, map, low);
            Check.due(what + ": range", 1, () -> Check.range(map, high));
            Check.due(what + ": above", high.length, () -> Check.seek(map, low, 1));
            Check.dueResult(what + ": above", map, high);
            Check.due(what + ": below", low.length, () -> Check.seek(map, high, 3));
            Check.dueResult(what + ": below", map, low);
            Check.due(what + ": none below", NO_ELEMENT, () -> Check.seek(map, low, 3));
            Check.due(what + ": none above", NO_ELEMENT, () -> Check.seek(map, high, 1));
        }
    }

    /** Keys are ORDERED by their first bytes that differ. */
    private static void orderedByTheFirstBytesThatDiffer() {
        dueBelow(row(1, 255), row(2, 0));
        dueBelow(row(1, 2, 9, 9), row(1, 3, 0));
        dueBelow(row(1, 9, 9, 9), row(2));
        for (int where : new int[] {0, 7, 8, 15, 16, 31, 32, 62, 63}) {
            byte[] low = Check.filled(64, 3);
            byte[] high = low.clone();
            low[where] = 6;
            high[where] = 7;
            Arrays.fill(low, where + 1, 64, (byte) 255);
            Arrays.fill(high, where + 1, 64, (byte) 0);
            dueBelow(low, high);
        }
    }

    /** (0 .. 255). */
    private static void bytesAre0To255InTheOrder() {
        dueBelow(row(0), row(1));
        dueBelow(row(127), row(128));
        dueBelow(row(0), row(128));
        dueBelow(row(0), row(255));
        dueBelow(row(127), row(255));
        dueBelow(row(254), row(255));
        dueBelow(row(200, 127), row(200, 128));
    }

    /** One that is the beginning of another comes first. */
    private static void aBeginningComesFirst() {
        dueBelow(row(0), row(0, 0));
        dueBelow(row(255), row(255, 0));
        dueBelow(row(255), row(255, 255));
        dueBelow(Check.filled(1, 0), Check.filled(64, 0));
        dueBelow(Check.filled(63, 0), Check.filled(64, 0));
        OrderedBytes map = large();
        for (int length = 64; length >= 1; length--) {
            Check.put(map, new byte[length], EMPTY);
        }
        for (int k = 0; k < 64; k++) {
            int place = k;
            Check.due("zeros at " + k, k + 1, () -> map.at(place));
        }
    }

    /** No two have one key. */
    private static void noTwoHaveOneKey() {
        OrderedBytes map = large();
        byte[] longest = Check.filled(64, 200);
        for (byte[] key : List.of(row(0), row(255), row(0, 0), longest)) {
            int before = map.count(0);
            Check.due("new", true, () -> Check.put(map, key, row(1)));
            Check.due("again", false, () -> Check.put(map, key, row(1)));
            Check.due("again, another value", false, () -> Check.put(map, key, row(2, 3)));
            Check.due("again, an empty value", false, () -> Check.put(map, key, EMPTY));
            Check.due("one more", before + 1, () -> map.count(0));
        }
        map.feed(0x0201, 2);
        Check.due("key 1, value 2", true, () -> map.put(1));
        map.feed(0x0201, 2);
        Check.due("key 1 2, no value", true, () -> map.put(2));
        Check.due("six", 6, () -> map.count(0));
    }

    /** As many UNITS as there are sixteens in the bytes (...), a broken one counting whole. */
    private static void unitsAreSixteensABrokenOneWhole() {
        int[][] wanted = {{1, 1}, {2, 1}, {15, 1}, {16, 1}, {17, 2}, {31, 2}, {32, 2}, {33, 3}, {48, 3}, {49, 4},
            {255, 16}, {256, 16}, {257, 17}, {513, 33}};
        for (int[] row : wanted) {
            OrderedBytes map = large();
            Check.put(map, row(1), Check.filled(row[0] - 1, 1));
            Check.due("units of " + row[0], row[1], () -> map.count(1));
        }
        OrderedBytes map = large();
        Check.put(map, Check.filled(64, 1), Check.filled(511, 1));
        Check.due("units of 575", 36, () -> map.count(1));
        Check.put(map, Check.filled(64, 1), Check.filled(512, 1));
        Check.due("units of 576", 36, () -> map.count(1));
    }

    /** In the bytes of its key and value together. */
    private static void unitsOfKeyAndValueTogether() {
        int[][] wanted = {{8, 8, 1}, {8, 9, 2}, {1, 15, 1}, {16, 0, 1}, {16, 1, 2}, {17, 15, 2}, {17, 16, 3}, {64, 0, 4}, {64, 1, 5}};
        OrderedBytes map = large();
        int units = 0;
        for (int i = 0; i < wanted.length; i++) {
            Check.put(map, Check.filled(wanted[i][0], 10 * i), Check.filled(wanted[i][1], 1));
            units += wanted[i][2];
            int all = units;
            Check.due("units with " + wanted[i][0] + " and " + wanted[i][1], all, () -> map.count(1));
        }
    }

    /** There are at most so many entries (...) as the constructor says; what would be more is FULL. */
    private static void entriesAreFull() {
        for (int limit : new int[] {1, 2, 3, 100}) {
            OrderedBytes map = new OrderedBytes(limit, 4096);
            for (int i = 0; i < limit; i++) {
                byte[] key = row(i);
                Check.due("entry " + i + " of " + limit, true, () -> Check.put(map, key, EMPTY));
            }
            Check.due("more than " + limit, STATE, () -> Check.put(map, row(200), EMPTY));
            Check.due("in place, all " + limit, false, () -> Check.put(map, row(0), Check.filled(40, 1)));
            Check.due("all " + limit, limit, () -> map.count(0));
        }
    }

    /** There are at most so many (...) units as the constructor says; what would be more is FULL. */
    private static void unitsAreFull() {
        OrderedBytes one = new OrderedBytes(10, 1);
        Check.due("17 bytes in one unit", STATE, () -> Check.put(one, row(1), Check.filled(16, 1)));
        Check.due("16 bytes in one unit", true, () -> Check.put(one, row(1), Check.filled(15, 1)));
        Check.due("one byte more", STATE, () -> Check.put(one, row(2), EMPTY));
        for (int limit : new int[] {15, 16, 17, 31, 32, 33, 35, 36}) {
            OrderedBytes map = new OrderedBytes(10, limit);
            byte[] key = Check.filled(64, 1);
            Check.due("a unit too many for " + limit, limit == 36 ? ARGUMENT : STATE,
                () -> Check.put(map, key, Check.filled(16 * limit - 63, 2)));
            Check.due("all of " + limit, true, () -> Check.put(map, key, Check.filled(16 * limit - 64, 3)));
            Check.due("no more than " + limit, STATE, () -> Check.put(map, row(1), EMPTY));
            Check.due("units", limit, () -> map.count(1));
            map.at(0);
            map.value();
            Check.dueResult("value in " + limit, map, Check.filled(16 * limit - 64, 3));
        }
    }

    /** The entry's own units are free for its new value: only what is more than the limit then is FULL. */
    private static void unitsAreFullForOneInPlace() {
        OrderedBytes map = new OrderedBytes(10, 5);
        Check.put(map, row(1), Check.filled(31, 1));
        Check.put(map, row(2), Check.filled(31, 2));
        Check.due("3 units for 2, one is free", false, () -> Check.put(map, row(1), Check.filled(47, 3)));
        Check.due("all 5", 5, () -> map.count(1));
        Check.due("3 units for 3, none is free", false, () -> Check.put(map, row(1), Check.filled(40, 4)));
        Check.due("4 units for 3, none is free", STATE, () -> Check.put(map, row(1), Check.filled(48, 5)));
        Check.due("3 units for 2, none is free", STATE, () -> Check.put(map, row(2), Check.filled(32, 5)));
        Check.get(map, row(1));
        Check.dueResult("the value stays", map, Check.filled(40, 4));
        Check.due("1 unit for 3", false, () -> Check.put(map, row(1), EMPTY));
        Check.due("4 units for 2, two are free", false, () -> Check.put(map, row(2), Check.filled(63, 6)));
        Check.due("all 5 again", 5, () -> map.count(1));
        map.value();
        Check.dueResult("the value that grew", map, Check.filled(63, 6));
        Check.due("sound", true, map::sound);
    }

    private static void fullEndsWhenThereIsRoomAgain() {
        for (int way = 0; way < 3; way++) {
            OrderedBytes map = new OrderedBytes(2, 2);
            Check.put(map, row(1), EMPTY);
            Check.put(map, row(2), EMPTY);
            Check.due("full", STATE, () -> Check.put(map, row(3), EMPTY));
            if (way == 0) {
                Check.remove(map, row(1));
            } else if (way == 1) {
                map.removeFrom(0);
            } else {
                map.clear();
            }
            Check.due("room again " + way, true, () -> Check.put(map, row(3), Check.filled(15, 1)));
            Check.due("sound", true, map::sound);
        }
    }

    /** "Is pushed together when it is scattered": free units that lie apart are as good as others. */
    private static void allUnitsCanBeTakenWhereverTheyLie() {
        for (int limit : new int[] {4, 16, 17, 20, 36, 64}) {
            OrderedBytes map = new OrderedBytes(100, limit);
            for (int i = 0; i < limit; i++) {
                Check.put(map, row(i), Check.filled(15, i));
            }
            for (int i = 1; i < limit; i += 2) {
                Check.remove(map, row(i));
            }
            int free = limit / 2;
            Check.due("one too many of " + limit, STATE, () -> Check.put(map, row(200), Check.filled(16 * free, 9)));
            Check.due("half of " + limit, true, () -> Check.put(map, row(200), Check.filled(16 * free - 1, 9)));
            Check.due("all of " + limit, limit, () -> map.count(1));
            map.value();
            Check.dueResult("the long one of " + limit, map, Check.filled(16 * free - 1, 9));
            for (int i = 0; i < limit; i += 2) {
                Check.get(map, row(i));
                Check.dueResult("value " + i + " of " + limit, map, Check.filled(15, i));
            }
            Check.due("sound", true, map::sound);
        }
    }

    /** THE TAPE is (...) empty at first. */
    private static void tapeIsEmptyAtFirst() {
        Check.due("a new tape", 0, () -> large().count(4));
        Check.due("a new tape is no key", ARGUMENT, () -> large().get());
        Check.due("one byte on a new tape", 1, () -> large().feed(0, 1));
    }

    /** A row of at most 600 bytes. */
    private static void tapeHasAtMost600() {
        OrderedBytes map = large();
        Check.feed(map, new byte[600]);
        Check.due("600 bytes", 600, () -> map.count(4));
        Check.due("601 bytes", STATE, () -> map.feed(1, 1));
        Check.due("still 600", 600, () -> map.count(4));
        Check.due("read", ARGUMENT, () -> map.put(64));
        Check.due("empty again", 0, () -> map.count(4));
        Check.feed(map, new byte[600]);
        Check.due("600 again", 600, () -> map.count(4));
    }

    /** Calls that READ it leave it empty. */
    private static void tapeIsEmptyWhenRead() {
        OrderedBytes map = three();
        List<Check.Call> calls = List.of(() -> map.put(1), map::get, () -> map.seek(0), () -> map.seek(1), () -> map.seek(2),
            () -> map.seek(3), map::range, map::remove, map::remove);
        for (Check.Call call : calls) {
            map.feed(20, 1);
            Check.answer(call);
            Check.due("a tape that was read", 0, () -> map.count(4));
        }
        map.feed(20, 1);
        map.remove();
        map.feed(30, 1);
        Check.due("nothing of the tape before", 2, map::get);
    }

    /** Also when they throw. */
    private static void tapeIsEmptyAlsoWhenTheyThrow() {
        OrderedBytes map = new OrderedBytes(1, 1);
        Check.put(map, row(20), EMPTY);
        dueReadAndThrown(map, "put 0", 1, ARGUMENT, () -> map.put(0));
        dueReadAndThrown(map, "put 65", 70, ARGUMENT, () -> map.put(65));
        dueReadAndThrown(map, "put more than there is", 1, ARGUMENT, () -> map.put(2));
        dueReadAndThrown(map, "put 513", 514, ARGUMENT, () -> map.put(1));
        dueReadAndThrown(map, "put an entry too many", 1, STATE, () -> map.put(1));
        dueReadAndThrown(map, "put a unit too many", 17, STATE, () -> map.put(17));
        dueReadAndThrown(map, "get no key", 65, ARGUMENT, map::get);
        dueReadAndThrown(map, "get none", 1, NO_ELEMENT, map::get);
        dueReadAndThrown(map, "remove no key", 65, ARGUMENT, map::remove);
        dueReadAndThrown(map, "seek no key", 65, ARGUMENT, () -> map.seek(0));
        dueReadAndThrown(map, "seek 4", 1, ARGUMENT, () -> map.seek(4));
        dueReadAndThrown(map, "seek -1", 1, ARGUMENT, () -> map.seek(-1));
        dueReadAndThrown(map, "seek none", 1, NO_ELEMENT, () -> map.seek(0));
        dueReadAndThrown(map, "range no key", 65, ARGUMENT, map::range);
        map.removeFrom(0);
        dueReadAndThrown(map, "range, none is current", 1, STATE, map::range);
        Check.due("all of it is gone", true, () -> Check.put(map, row(1), EMPTY));
    }

    private static void dueReadAndThrown(OrderedBytes map, String what, int length, Object want, Check.Call call) {
        Check.feed(map, Check.filled(length, 99));
        Check.due(what, want, call);
        Check.due(what + ": the tape", 0, () -> map.count(4));
    }

    private static void tapeStaysInOtherCalls() {
        OrderedBytes map = three();
        OrderedBytes none = large();
        List<Check.Call> calls = new ArrayList<>();
        for (OrderedBytes each : List.of(map, none)) {
            calls.addAll(List.of(() -> each.feed(1, 0), () -> each.feed(1, 9), () -> each.at(0), () -> each.at(9),
                () -> each.step(false), () -> each.step(true), each::value, each::place, () -> each.byteAt(0),
                () -> each.byteAt(99), () -> each.count(4), () -> each.count(9), each::sound,
                () -> each.removeFrom(-1), () -> each.removeFrom(0), each::clear));
            each.feed(0x030201, 3);
        }
        for (Check.Call call : calls) {
            Check.answer(call);
            Check.due("the tape stays", 3, () -> map.count(4));
            Check.due("the tape stays, none is current", 3, () -> none.count(4));
        }
        for (OrderedBytes each : List.of(map, none)) {
            Check.due("its bytes stay", true, () -> each.put(3));
            each.at(0);
            Check.dueResult("its bytes", each, row(1, 2, 3));
        }
    }

    /** THE RESULT is a row of bytes, empty at first. */
    private static void resultIsEmptyAtFirst() {
        OrderedBytes map = large();
        Check.due("a new result", 0, () -> map.count(5));
        Check.due("no byte in it", INDEX, () -> map.byteAt(0));
        Check.put(map, row(1), row(2));
        Check.due("put gives none", 0, () -> map.count(5));
        Check.due("still no byte in it", INDEX, () -> map.byteAt(0));
    }

    private static void resultStaysWhereNoneIsPromised() {
        OrderedBytes map = three();
        byte[] want = row(21, 22);
        map.value();
        dueResultAfter(map, want, "feed", () -> map.feed(40, 1));
        dueResultAfter(map, want, "put", () -> map.put(1));
        dueResultAfter(map, want, "put in place", () -> Check.put(map, row(20), row(9)));
        dueResultAfter(map, want, "place", map::place);
        dueResultAfter(map, want, "range", map::range);
        dueResultAfter(map, want, "get none", () -> Check.get(map, row(1)));
        dueResultAfter(map, want, "get no key", map::get);
        dueResultAfter(map, want, "seek none", () -> Check.seek(map, row(99), 0));
        dueResultAfter(map, want, "seek 4", () -> Check.seek(map, row(20), 4));
        dueResultAfter(map, want, "at none", () -> map.at(4));
        dueResultAfter(map, want, "count", () -> map.count(0));
        dueResultAfter(map, want, "sound", map::sound);
        dueResultAfter(map, want, "remove", () -> Check.remove(map, row(10)));
        dueResultAfter(map, want, "removeFrom", () -> map.removeFrom(0));
        dueResultAfter(map, want, "step, none is current", () -> map.step(false));
        dueResultAfter(map, want, "value, none is current", map::value);
        dueResultAfter(map, want, "clear", map::clear);
    }

    private static void dueResultAfter(OrderedBytes map, byte[] want, String what, Check.Call call) {
        Check.answer(call);
        Check.dueResult("after " + what, map, want);
    }

    private static void dueNoneIsCurrent(String what, OrderedBytes map) {
        Check.due(what + ": step", STATE, () -> map.step(false));
        Check.due(what + ": step back", STATE, () -> map.step(true));
        Check.due(what + ": value", STATE, map::value);
        Check.due(what + ": place", STATE, map::place);
        Check.due(what + ": range", STATE, map::range);
        Check.due(what + ": removeFrom", STATE, () -> map.removeFrom(0));
    }

    /** THE CURRENT entry is none at first. */
    private static void currentIsNoneAtFirst() {
        OrderedBytes map = large();
        dueNoneIsCurrent("new", map);
        map.feed(1, 1);
        dueNoneIsCurrent("fed", map);
        Check.answer(() -> Check.get(map, row(1)));
        Check.answer(() -> Check.seek(map, row(1), 0));
        Check.answer(() -> map.at(0));
        dueNoneIsCurrent("refused", map);
    }

    /** It is none again when it is removed. */
    private static void currentIsNoneWhenItIsRemoved() {
        OrderedBytes removed = three();
        Check.remove(removed, row(20));
        dueNoneIsCurrent("remove", removed);
        OrderedBytes removedFrom = three();
        removedFrom.removeFrom(0);
        dueNoneIsCurrent("removeFrom", removedFrom);
        OrderedBytes cleared = three();
        cleared.clear();
        dueNoneIsCurrent("clear", cleared);
        OrderedBytes back = three();
        Check.remove(back, row(20));
        Check.put(back, row(20), EMPTY);
        Check.due("put again", 1, back::place);
    }

    private static void currentStaysWhenAnotherIsRemoved() {
        OrderedBytes map = three();
        Check.due("none to remove", false, () -> Check.remove(map, row(21)));
        Check.due("the same place", 1, map::place);
        Check.due("the one before", true, () -> Check.remove(map, row(10)));
        Check.due("a place less", 0, map::place);
        Check.due("the one behind", true, () -> Check.remove(map, row(30)));
        Check.due("alone", 0, map::place);
        map.value();
        Check.dueResult("its value", map, row(21, 22));
    }
}
