import java.util.ArrayList;
import java.util.List;
import java.util.function.Consumer;

/** Each call with each argument at an edge, in each kind of state, with each kind of tape; then all that can be seen is looked at. */
public final class MatrixTest {
    private static final int LEAST = Integer.MIN_VALUE;
    private static final int MOST = Integer.MAX_VALUE;
    private static final byte[] EMPTY = {};

    private MatrixTest() {
    }

    /** Something that is done to a pair, with a name for the report. */
    private record Deed(String name, Consumer<Pair> deed) {
    }

    /** How an object is made and brought into its state. */
    private record State(String name, int entries, int units, Consumer<Pair> deed) {
    }

    public static void main(String[] args) {
        List<Deed> calls = calls();
        for (State state : states()) {
            for (byte[] tape : tapes()) {
                for (Deed call : calls) {
                    tryOne(state, tape, call);
                }
            }
        }
        Check.end();
    }

    private static void tryOne(State state, byte[] tape, Deed call) {
        String name = state.name + ", " + tape.length + " bytes on the tape, " + call.name;
        Pair pair = new Pair(name, state.entries, state.units);
        state.deed.accept(pair);
        pair.feed(tape);
        call.deed.accept(pair);
        lookAtAll(pair);
    }

    private static List<State> states() {
        return List.of(
            new State("a new object for least", LEAST, LEAST, pair -> { }),
            new State("a new object for most", MOST, MOST, pair -> { }),
            new State("one entry that takes all", 0, 0, pair -> pair.put(row(20), EMPTY)),
            new State("an empty value is the result", 9, 99, pair -> {
                fourEntries(pair, 1);
                pair.at(0);
                pair.value();
            }),
            new State("the first is current", 9, 99, pair -> goTo(pair, 0)),
            new State("one in the middle is current", 9, 99, pair -> goTo(pair, 1)),
            new State("the last is current", 9, 99, pair -> goTo(pair, 3)),
            new State("none is current", 9, 99, pair -> {
                goTo(pair, 2);
                pair.removeFrom(0);
            }),
            new State("all entries are there", 4, 99, pair -> goTo(pair, 1)),
            new State("all units are taken", 9, 8, pair -> {
                fourEntries(pair, 17);
                pair.at(1);
            }),
            new State("all but one unit are taken", 9, 9, pair -> {
                fourEntries(pair, 17);
                pair.at(1);
            }),
            new State("free units lie apart", 9, 8, MatrixTest::scatter),
            new State("all is cleared", 9, 8, pair -> {
                fourEntries(pair, 17);
                pair.at(1);
                pair.clear();
            }));
    }

    private static void fourEntries(Pair pair, int longer) {
        for (int i : new int[] {2, 0, 3, 1}) {
            pair.put(row(10 * (i + 1)), Check.filled(i + longer - 1, i));
        }
    }

    /** The result is another entry's value: so it shows whether a call changes the result or the current entry. */
    private static void goTo(Pair pair, int place) {
        fourEntries(pair, 1);
        pair.at(2);
        pair.value();
        pair.feed(row(10 * (place + 1)));
        pair.put(1);
    }

    private static void scatter(Pair pair) {
        for (int i = 0; i < 8; i++) {
            pair.put(row(5 * (i + 1)), Check.filled(15, i));
        }
        for (int i = 0; i < 8; i += 2) {
            pair.feed(row(5 * (i + 1)));
            pair.remove();
        }
        pair.at(1);
        pair.value();
        pair.at(1);
    }

    private static List<byte[]> tapes() {
        List<byte[]> tapes = new ArrayList<>();
        for (int[] key : new int[][] {{}, {0}, {9}, {10}, {11}, {20}, {20, 0}, {40}, {41}, {128}, {255}}) {
            tapes.add(row(key));
        }
        for (int length : new int[] {15, 16, 17, 32, 33, 48, 49, 63, 64, 65, 128, 512, 513, 514, 576, 577, 592, 599, 600}) {
            tapes.add(Check.joined(row(20), Check.filled(length - 1, 3)));
        }
        for (int length : new int[] {16, 17, 64, 65}) {
            tapes.add(new byte[length]);
            tapes.add(Check.joined(row(255), Check.filled(length - 1, 4)));
        }
        return tapes;
    }

    private static List<Deed> calls() {
        List<Deed> calls = new ArrayList<>();
        for (int n : new int[] {LEAST, -1, 0, 1, 2, 7, 8, 9, 256 + 1, MOST}) {
            calls.add(new Deed("feed", pair -> pair.feed(0x8091A2B3C4D5E6F7L, n)));
        }
        for (int k : new int[] {LEAST, -1, 0, 1, 2, 3, 15, 16, 17, 63, 64, 65, 66, 512, 513, 600, 601, MOST}) {
            calls.add(new Deed("put", pair -> pair.put(k)));
        }
        for (int how : new int[] {LEAST, -1, 0, 1, 2, 3, 4, 256, MOST}) {
            calls.add(new Deed("seek", pair -> pair.seek(how)));
        }
        for (int k : new int[] {LEAST, -1, 0, 1, 2, 3, 4, 5, 256, MOST}) {
            calls.add(new Deed("at", pair -> pair.at(k)));
            calls.add(new Deed("removeFrom", pair -> pair.removeFrom(k)));
            calls.add(new Deed("byteAt", pair -> pair.byteAt(k)));
            calls.add(new Deed("count", pair -> pair.count(k)));
        }
        calls.add(new Deed("get", Pair::get));
        calls.add(new Deed("remove", Pair::remove));
        calls.add(new Deed("step on", pair -> pair.step(false)));
        calls.add(new Deed("step back", pair -> pair.step(true)));
        calls.add(new Deed("value", Pair::value));
        calls.add(new Deed("place", Pair::place));
        calls.add(new Deed("range", Pair::range));
        calls.add(new Deed("clear", Pair::clear));
        calls.add(new Deed("sound", Pair::sound));
        return calls;
    }

    private static void lookAtAll(Pair pair) {
        for (int what = -1; what <= 6; what++) {
            pair.count(what);
        }
        pair.sound();
        lookAtResult(pair);
        pair.place();
        pair.value();
        lookAtResult(pair);
        for (int k = 0; k <= pair.model.entries.size(); k++) {
            pair.at(k);
            lookAtResult(pair);
            pair.value();
            lookAtResult(pair);
        }
        lookAtTape(pair);
    }

    private static void lookAtResult(Pair pair) {
        int length = pair.model.result.length;
        for (int i : new int[] {-1, 0, 1, length / 2, length - 1, length}) {
            pair.byteAt(i);
        }
    }

    /** What is on the tape shows only when it is put, for which there must be room. */
    private static void lookAtTape(Pair pair) {
        pair.clear();
        pair.put(Math.min(64, pair.model.tape.length));
        pair.at(0);
        lookAtResult(pair);
        pair.value();
        lookAtResult(pair);
        pair.sound();
    }

    private static byte[] row(int... bytes) {
        return Check.row(bytes);
    }
}
