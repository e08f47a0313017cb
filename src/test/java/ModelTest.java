import java.util.Random;

/** Runs of chance calls (always the same ones) on the class and on the model: the answers must agree. */
public final class ModelTest {
    private static final int RUNS = 3000;

    private final Random chance;
    private final Pair pair;
    private final int keyKinds;
    private final int longestKey;
    private final int longestValue;

    private ModelTest(int seed, int calls) {
        chance = new Random(seed);
        int entries = chance.nextBoolean() ? 1024 : 1 + chance.nextInt(30);
        int units = chance.nextBoolean() ? 4096 : 1 + chance.nextInt(60);
        keyKinds = 1 + chance.nextInt(chance.nextBoolean() ? 3 : 256);
        longestKey = chance.nextInt(3) == 0 ? 64 : 1 + chance.nextInt(4);
        longestValue = chance.nextInt(4) == 0 ? 512 : chance.nextInt(48);
        pair = new Pair("run " + seed + " (" + entries + ", " + units + ")", entries, units, calls);
    }

    public static void main(String[] args) {
        int runs = args.length > 0 ? Integer.parseInt(args[0]) : RUNS;
        int calls = args.length > 1 ? Integer.parseInt(args[1]) : Pair.CALLS;
        for (int seed = 1; seed <= runs; seed++) {
            ModelTest test = new ModelTest(seed, calls);
            while (!test.pair.isUsedUp()) {
                test.someCalls();
            }
        }
        Check.end();
    }

    private byte[] chanceRow(int length, int kinds) {
        byte[] row = new byte[length];
        for (int i = 0; i < length; i++) {
            row[i] = (byte) (chance.nextInt(kinds) * 101);
        }
        return row;
    }

    private byte[] chanceKey() {
        return chanceRow(1 + chance.nextInt(longestKey), keyKinds);
    }

    private void someCalls() {
        int kind = chance.nextInt(100);
        if (kind < 40) {
            putSome();
        } else if (kind < 65) {
            readKeySome(kind);
        } else if (kind < 90) {
            moveSome(kind);
        } else {
            rareSome();
        }
        lookAround();
        pair.sound();
    }

    private void putSome() {
        byte[] key = chanceKey();
        pair.feed(Check.joined(key, chanceRow(chance.nextInt(longestValue + 1), 256)));
        pair.put(chance.nextInt(50) == 0 ? chance.nextInt(70) - 3 : key.length);
    }

    private void readKeySome(int kind) {
        if (chance.nextInt(30) != 0) {
            pair.feed(chanceKey());
        }
        int how = chance.nextInt(40) == 0 ? chance.nextInt(9) - 3 : chance.nextInt(4);
        if (kind < 47) {
            pair.remove();
        } else if (kind < 53) {
            pair.get();
        } else if (kind < 59) {
            pair.seek(how);
        } else {
            pair.range();
        }
    }

    private void moveSome(int kind) {
        if (kind < 70) {
            pair.at(chance.nextInt(pair.model.entries.size() + 3) - 1);
        } else if (kind < 78) {
            pair.step(chance.nextBoolean());
        } else if (kind < 84) {
            pair.value();
        } else {
            pair.place();
        }
    }

    private void rareSome() {
        int n = chance.nextInt(20) == 0 ? -1 : chance.nextInt(10) == 0 ? Integer.MAX_VALUE : chance.nextInt(5);
        switch (chance.nextInt(12)) {
            case 0:
                pair.clear();
                break;
            case 1:
                pair.feed(-2, n);
                break;
            case 2:
            case 3:
                pair.feed(chanceRow(chance.nextInt(80), keyKinds));
                break;
            default:
                pair.removeFrom(n);
        }
    }

    private void lookAround() {
        pair.count(chance.nextInt(9) - 1);
        pair.byteAt(chance.nextInt(pair.model.result.length + 3) - 1);
    }
}
