import java.util.Arrays;
import java.util.NoSuchElementException;

/** An ordered map of rows of bytes: a red-black tree whose keys and values lie in blocks of an own heap. */
public final class OrderedBytes {
    public static final int NONE = -1;

    private static final int MOST_ENTRIES = 1024;
    private static final int MOST_UNITS = 4096;
    private static final int LONGEST_KEY = 64;
    private static final int LONGEST_VALUE = 512;
    private static final int LONGEST_TAPE = 600;
    private static final int UNIT_BYTES = 16;
    private static final int FIRST_CAPACITY = 16;
    private static final int LEFT = 0;
    private static final int RIGHT = 1;
    // Twenty levels hold 1024 entries; a climb that counts against this bound always has an end.
    private static final int MOST_LEVELS = 64;

    private final int entryLimit;
    private final Heap heap;
    private final Tree tree;
    private final Row tape;
    private final Row result;
    private Node current;
    private int keyBytes;
    private int valueBytes;

    public OrderedBytes(int entries, int units) {
        entryLimit = nearest(entries, MOST_ENTRIES);
        heap = new Heap(nearest(units, MOST_UNITS));
        tree = new Tree(heap);
        tape = new Row(LONGEST_TAPE);
        result = new Row(LONGEST_VALUE);
    }

    public int feed(long eight, int n) throws IllegalArgumentException, IllegalStateException {
        if (n < 1 || n > 8) {
            throw new IllegalArgumentException("not 1 to 8 bytes");
        }
        if (n > LONGEST_TAPE - tape.length) {
            throw new IllegalStateException("the tape is too short");
        }
        for (int i = 0; i < n; i++) {
            tape.append((byte) (eight >>> (8 * i)));
        }
        return tape.length;
    }

    public boolean put(int k) throws IllegalArgumentException, IllegalStateException {
        int length = readTape();
        if (!isKeyLength(k) || k > length || length - k > LONGEST_VALUE) {
            throw new IllegalArgumentException("no key with a value");
        }
        Node entry = tree.find(tape, k);
        if (isFull(entry, unitsOf(length))) {
            throw new IllegalStateException("full");
        }
        if (entry == null) {
            current = newEntry(k, length);
            return true;
        }
        changeValue(entry, length);
        current = entry;
        return false;
    }

    public int get() throws IllegalArgumentException, NoSuchElementException {
        Node entry = tree.find(tape, readKey());
        if (entry == null) {
            throw new NoSuchElementException("no such key");
        }
        current = entry;
        return showValue(entry);
    }

    public boolean remove() throws IllegalArgumentException {
        Node entry = tree.find(tape, readKey());
        if (entry != null) {
            drop(entry);
        }
        return entry != null;
    }

    public int seek(int how) throws IllegalArgumentException, NoSuchElementException {
        int length = readKey();
        if (how < 0 || how > 3) {
            throw new IllegalArgumentException("no such way to seek");
        }
        boolean passesTheSame = how == 1 || how == 2;
        int below = tree.keysBelow(tape, length, passesTheSame);
        Node entry = tree.pick(how < 2 ? below : below - 1);
        if (entry == null) {
            throw new NoSuchElementException("no such key");
        }
        return goTo(entry);
    }

    public int at(int k) throws IndexOutOfBoundsException {
        Node entry = tree.pick(k);
        if (entry == null) {
            throw new IndexOutOfBoundsException("no such place");
        }
        return goTo(entry);
    }

    public boolean step(boolean back) throws IllegalStateException {
        int here = currentPlace();
        Node entry = tree.pick(back ? here - 1 : here + 1);
        if (entry != null) {
            goTo(entry);
        }
        return entry != null;
    }

    public int value() throws IllegalStateException {
        if (current == null) {
            throw new IllegalStateException("no entry is current");
        }
        return showValue(current);
    }

    public int place() throws IllegalStateException {
        return currentPlace();
    }

    public int range() throws IllegalArgumentException, IllegalStateException {
        int length = readTape();
        if (length > LONGEST_KEY) {
            throw new IllegalArgumentException("longer than a key");
        }
        int from = currentPlace();
        int to = length == 0 ? tree.size() : tree.keysBelow(tape, length, false);
        return Math.max(0, to - from);
    }

    public int removeFrom(int n) throws IllegalArgumentException, IllegalStateException {
        if (n < 0) {
            throw new IllegalArgumentException("fewer than none");
        }
        int from = currentPlace();
        int removed = Math.min(n, tree.size() - from - 1) + 1;
        for (int i = 0; i < removed; i++) {
            Node entry = tree.pick(from);
            if (entry != null) {
                drop(entry);
            }
        }
        return removed;
    }

    public int clear() {
        int gone = tree.size();
        tree.empty();
        heap.empty();
        current = null;
        keyBytes = 0;
        valueBytes = 0;
        return gone;
    }

    public int byteAt(int i) throws IndexOutOfBoundsException {
        if (i < 0 || i >= result.length) {
            throw new IndexOutOfBoundsException("no such byte in the result");
        }
        return numberAt(result.bytes, i);
    }

    public int count(int what) {
        switch (what) {
            case 0: return tree.size();
            case 1: return heap.used;
            case 2: return keyBytes;
            case 3: return valueBytes;
            case 4: return tape.length;
            case 5: return result.length;
            default: return NONE;
        }
    }

    public boolean sound() {
        // The heap first: the tree's keys can be looked at only in blocks that lie inside it.
        return heap.isSound() && blocksMatchEntries() && tree.isSound();
    }

    private static int nearest(int asked, int most) {
        return Math.max(1, Math.min(most, asked));
    }

    private static int unitsOf(int bytes) {
        return (bytes + UNIT_BYTES - 1) / UNIT_BYTES;
    }

    /** The byte as 0 .. 255. Rows are never read behind their end; the test keeps the machine from throwing in any case. */
    private static int numberAt(byte[] row, int i) {
        return i >= 0 && i < row.length ? row[i] & 255 : 0;
    }

    /** Copies only what lies inside both rows, which is always so, for the same reason. */
    private static void copy(byte[] from, int start, byte[] to, int place, int length) {
        boolean isInFrom = start >= 0 && length >= 0 && start <= from.length - length;
        boolean isInTo = place >= 0 && place <= to.length - length;
        if (isInFrom && isInTo) {
            System.arraycopy(from, start, to, place, length);
        }
    }

    private static boolean isKeyLength(int length) {
        return length >= 1 && length <= LONGEST_KEY;
    }

    /** Leaves the tape's bytes where they are until the next feed, so that the call can go on to use them. */
    private int readTape() {
        int length = tape.length;
        tape.length = 0;
        return length;
    }

    private int readKey() {
        int length = readTape();
        if (!isKeyLength(length)) {
            throw new IllegalArgumentException("no key");
        }
        return length;
    }

    private int currentPlace() {
        if (current == null) {
            throw new IllegalStateException("no entry is current");
        }
        return tree.placeOf(current);
    }

    private boolean isFull(Node entry, int units) {
        boolean tooMany = entry == null && tree.size() >= entryLimit;
        int givenBack = entry == null ? 0 : entry.block.units;
        return tooMany || heap.used - givenBack + units > heap.limit;
    }

    private Node newEntry(int keyLength, int length) {
        Node entry = new Node(keyLength);
        entry.block = heap.take(entry, unitsOf(length));
        keyBytes += keyLength;
        fill(entry, length);
        tree.link(entry);
        return entry;
    }

    /** The old block goes first: with it still taken, the last units might not be enough for the new one. */
    private void changeValue(Node entry, int length) {
        if (entry.block.units != unitsOf(length)) {
            heap.giveBack(entry.block);
            entry.block = heap.take(entry, unitsOf(length));
        }
        valueBytes -= entry.valueBytes;
        fill(entry, length);
    }

    private void fill(Node entry, int length) {
        heap.write(entry.block, tape, length);
        entry.valueBytes = length - entry.keyBytes;
        valueBytes += entry.valueBytes;
    }

    private void drop(Node entry) {
        tree.unlink(entry);
        heap.giveBack(entry.block);
        keyBytes -= entry.keyBytes;
        valueBytes -= entry.valueBytes;
        if (current == entry) {
            current = null;
        }
    }

    private int goTo(Node entry) {
        current = entry;
        heap.read(entry.block, 0, entry.keyBytes, result);
        return result.length;
    }

    private int showValue(Node entry) {
        heap.read(entry.block, entry.keyBytes, entry.valueBytes, result);
        return result.length;
    }

    /** Each taken block is that of one entry in the tree, and as there are as many, no entry is without one. */
    private boolean blocksMatchEntries() {
        int taken = 0;
        for (Block block = heap.edge.behind; block != null; block = block.behind) {
            Node owner = block.owner;
            if (owner != null) {
                taken++;
                if (owner.block != block || !tree.holds(owner)
                        || block.units != unitsOf(owner.keyBytes + owner.valueBytes)) {
                    return false;
                }
            }
        }
        return taken == tree.size();
    }

    /** A row of bytes that is made once and filled again and again. */
    private static final class Row {
        final byte[] bytes;
        int length;

        Row(int longest) {
            bytes = new byte[longest];
        }

        void append(byte one) {
            if (length < bytes.length) {
                bytes[length] = one;
                length++;
            }
        }
    }

    /** Some units of the heap in one piece; free when it has no owner. */
    private static final class Block {
        int start;
        int units;
        Node owner;
        Block behind;

        Block(int start, int units) {
            this.start = start;
            this.units = units;
        }
    }

    /** An entry: its block holds the bytes of the key and, right behind them, those of the value. */
    private static final class Node {
        final int keyBytes;
        int valueBytes;
        Block block;
        Node left;
        Node right;
        Node parent;
        boolean red;
        int size;

        Node(int keyBytes) {
            this.keyBytes = keyBytes;
        }

        Node child(int side) {
            return side == LEFT ? left : right;
        }

        void setChild(int side, Node child) {
            if (side == LEFT) {
                left = child;
            } else {
                right = child;
            }
        }

        int sideOf(Node child) {
            return child == left ? LEFT : RIGHT;
        }
    }

    /** The blocks stand in one chain in the order of their places, without gaps, free ones and taken ones. */
    private static final class Heap {
        final int limit;
        // It has no units; with it in front, every block of the chain has one before it.
        final Block edge;
        int used;
        private int capacity;
        private byte[] bytes;

        Heap(int limit) {
            this.limit = limit;
            capacity = Math.min(limit, FIRST_CAPACITY);
            bytes = new byte[capacity * UNIT_BYTES];
            edge = new Block(0, 0);
            edge.behind = new Block(0, capacity);
        }

        /** The caller has seen to it that so many units more are within the limit. */
        Block take(Node owner, int units) {
            Block block = firstFit(units);
            if (block == null && capacity - used < units) {
                grow(used + units);
                block = firstFit(units);
            }
            if (block == null) {
                block = pushTogether();
            }
            cut(block, units);
            block.owner = owner;
            used += units;
            return block;
        }

        void giveBack(Block block) {
            block.owner = null;
            used -= block.units;
        }

        void empty() {
            edge.behind = new Block(0, capacity);
            used = 0;
        }

        void write(Block block, Row from, int length) {
            copy(from.bytes, 0, bytes, block.start * UNIT_BYTES, length);
        }

        void read(Block block, int skipped, int length, Row to) {
            copy(bytes, block.start * UNIT_BYTES + skipped, to.bytes, 0, length);
            to.length = length;
        }

        int compareRow(Row key, int length, Node node) {
            return compareBytes(key.bytes, 0, length, node);
        }

        int compareNodes(Node one, Node other) {
            return compareBytes(bytes, one.block.start * UNIT_BYTES, one.keyBytes, other);
        }

        private int compareBytes(byte[] row, int from, int length, Node node) {
            int nodeFrom = node.block.start * UNIT_BYTES;
            int both = Math.min(length, node.keyBytes);
            for (int i = 0; i < both; i++) {
                int difference = numberAt(row, from + i) - numberAt(bytes, nodeFrom + i);
                if (difference != 0) {
                    return difference;
                }
            }
            return length - node.keyBytes;
        }

        private Block firstFit(int units) {
            for (Block block = edge.behind; block != null; block = block.behind) {
                if (block.owner == null) {
                    joinFreeOnes(block);
                    if (block.units >= units) {
                        return block;
                    }
                }
            }
            return null;
        }

        private static void joinFreeOnes(Block block) {
            Block next = block.behind;
            while (next != null && next.owner == null) {
                block.units += next.units;
                next = next.behind;
            }
            block.behind = next;
        }

        private static void cut(Block block, int units) {
            if (block.units > units) {
                Block rest = new Block(block.start + units, block.units - units);
                rest.behind = block.behind;
                block.behind = rest;
                block.units = units;
            }
        }

        private void grow(int needed) {
            int grown = Math.min(limit, Math.max(needed, 2 * capacity));
            Block last = edge;
            while (last.behind != null) {
                last = last.behind;
            }
            last.behind = new Block(capacity, grown - capacity);
            bytes = Arrays.copyOf(bytes, grown * UNIT_BYTES);
            capacity = grown;
        }

        /** All free units come to lie in one block at the end, which is the answer. */
        private Block pushTogether() {
            int end = 0;
            Block last = edge;
            for (Block block = edge.behind; block != null; block = block.behind) {
                if (block.owner != null) {
                    moveTo(block, end);
                    end += block.units;
                    last.behind = block;
                    last = block;
                }
            }
            Block rest = new Block(end, capacity - end);
            last.behind = rest;
            return rest;
        }

        private void moveTo(Block block, int start) {
            copy(bytes, block.start * UNIT_BYTES, bytes, start * UNIT_BYTES, block.units * UNIT_BYTES);
            block.start = start;
        }

        boolean isSound() {
            int end = 0;
            int taken = 0;
            for (Block block = edge.behind; block != null; block = block.behind) {
                if (block.start != end || block.units < 1) {
                    return false;
                }
                end += block.units;
                taken += block.owner == null ? 0 : block.units;
            }
            return end == capacity && capacity <= limit && bytes.length == capacity * UNIT_BYTES && taken == used;
        }
    }

    /** A red-black tree in which each node knows how many nodes it and those below it are. */
    private static final class Tree {
        private final Heap heap;
        // It stands, black and empty, wherever there is no node: so no link is ever null.
        private final Node nil;
        private Node root;

        Tree(Heap heap) {
            this.heap = heap;
            nil = new Node(0);
            nil.left = nil;
            nil.right = nil;
            nil.parent = nil;
            root = nil;
        }

        int size() {
            return root.size;
        }

        void empty() {
            root = nil;
        }

        Node find(Row key, int length) {
            Node node = root;
            while (node != nil) {
                int order = heap.compareRow(key, length, node);
                if (order == 0) {
                    return node;
                }
                node = order < 0 ? node.left : node.right;
            }
            return null;
        }

        int keysBelow(Row key, int length, boolean alsoTheSame) {
            int below = 0;
            Node node = root;
            while (node != nil) {
                int order = heap.compareRow(key, length, node);
                if (order > 0 || alsoTheSame && order == 0) {
                    below += node.left.size + 1;
                    node = node.right;
                } else {
                    node = node.left;
                }
            }
            return below;
        }

        Node pick(int place) {
            int rest = place;
            Node node = rest < 0 ? nil : root;
            while (node != nil && rest != node.left.size) {
                if (rest < node.left.size) {
                    node = node.left;
                } else {
                    rest -= node.left.size + 1;
                    node = node.right;
                }
            }
            return node == nil ? null : node;
        }

        int placeOf(Node node) {
            int place = node.left.size;
            for (Node low = node; low.parent != nil; low = low.parent) {
                if (low == low.parent.right) {
                    place += low.parent.left.size + 1;
                }
            }
            return place;
        }

        boolean holds(Node node) {
            return pick(placeOf(node)) == node;
        }

        void link(Node fresh) {
            Node above = nil;
            int side = LEFT;
            for (Node node = root; node != nil; node = node.child(side)) {
                node.size++;
                above = node;
                side = heap.compareNodes(fresh, node) < 0 ? LEFT : RIGHT;
            }
            fresh.left = nil;
            fresh.right = nil;
            fresh.parent = above;
            fresh.red = true;
            fresh.size = 1;
            if (above == nil) {
                root = fresh;
            } else {
                above.setChild(side, fresh);
            }
            mendRedBelowRed(fresh);
            root.red = false;
        }

        void unlink(Node gone) {
            Node leaving = gone.left == nil || gone.right == nil ? gone : least(gone.right);
            for (Node node = leaving; node != nil; node = node.parent) {
                node.size--;
            }
            Node heir = leaving.left == nil ? leaving.right : leaving.left;
            boolean blackIsMissing = !leaving.red;
            replace(leaving, heir);
            if (leaving != gone) {
                takeOver(leaving, gone);
            }
            if (blackIsMissing) {
                mendMissingBlack(heir);
            }
            nil.parent = nil;
        }

        private Node least(Node top) {
            Node node = top;
            while (node.left != nil) {
                node = node.left;
            }
            return node;
        }

        /** The heir may be nil: its parent is set too, because mending a missing black climbs from there. */
        private void replace(Node old, Node heir) {
            Node above = old.parent;
            if (above == nil) {
                root = heir;
            } else {
                above.setChild(above.sideOf(old), heir);
            }
            heir.parent = above;
        }

        /** Nodes change places, not their contents: the current entry stays the same node. */
        private void takeOver(Node node, Node gone) {
            replace(gone, node);
            node.left = gone.left;
            node.left.parent = node;
            node.right = gone.right;
            node.right.parent = node;
            node.red = gone.red;
            node.size = gone.size;
        }

        private void rotate(Node node, int side) {
            Node rising = node.child(1 - side);
            Node between = rising.child(side);
            node.setChild(1 - side, between);
            if (between != nil) {
                between.parent = node;
            }
            replace(node, rising);
            rising.setChild(side, node);
            node.parent = rising;
            rising.size = node.size;
            node.size = node.left.size + node.right.size + 1;
        }

        private void mendRedBelowRed(Node fresh) {
            Node low = fresh;
            for (int level = 0; level < MOST_LEVELS && low.parent.red; level++) {
                Node middle = low.parent;
                Node top = middle.parent;
                int side = top.sideOf(middle);
                Node uncle = top.child(1 - side);
                top.red = true;
                if (uncle.red) {
                    middle.red = false;
                    uncle.red = false;
                    low = top;
                } else {
                    if (low != middle.child(side)) {
                        rotate(middle, side);
                        middle = low;
                    }
                    middle.red = false;
                    rotate(top, 1 - side);
                    return;
                }
            }
        }

        private void mendMissingBlack(Node heir) {
            Node low = heir;
            for (int level = 0; level < MOST_LEVELS && low != root && !low.red; level++) {
                Node top = low.parent;
                int side = top.sideOf(low);
                if (top.child(1 - side).red) {
                    top.child(1 - side).red = false;
                    top.red = true;
                    rotate(top, side);
                }
                Node sibling = top.child(1 - side);
                if (sibling.left.red || sibling.right.red) {
                    giveBlackFrom(sibling, top, side);
                    low = root;
                } else {
                    sibling.red = true;
                    low = top;
                }
            }
            low.red = false;
        }

        private void giveBlackFrom(Node sibling, Node top, int side) {
            Node rising = sibling;
            if (!sibling.child(1 - side).red) {
                rising = sibling.child(side);
                rotate(sibling, 1 - side);
            }
            rising.red = top.red;
            rising.child(1 - side).red = false;
            top.red = false;
            rotate(top, side);
        }

        boolean isSound() {
            if (root.red || root.parent != nil || nil.red || nil.size != 0) {
                return false;
            }
            int digits = 32 - Integer.numberOfLeadingZeros(root.size + 1);
            int levels = Math.min(MOST_LEVELS, 2 * digits);
            return blackOnes(this, root, nil, nil, levels) != NONE;
        }

        /** How many black nodes each way down has; NONE when they differ or another rule is broken. */
        private static int blackOnes(Tree tree, Node node, Node low, Node high, int levels) {
            if (node == tree.nil) {
                return 0;
            }
            if (levels == 0 || !tree.isLinkedWell(node) || !tree.isBetween(node, low, high)) {
                return NONE;
            }
            int onLeft = blackOnes(tree, node.left, low, node, levels - 1);
            int onRight = blackOnes(tree, node.right, node, high, levels - 1);
            if (onLeft == NONE || onLeft != onRight) {
                return NONE;
            }
            return node.red ? onLeft : onLeft + 1;
        }

        private boolean isLinkedWell(Node node) {
            boolean leftIsBelow = node.left == nil || node.left.parent == node;
            boolean rightIsBelow = node.right == nil || node.right.parent == node;
            boolean redBelowRed = node.red && (node.left.red || node.right.red);
            return leftIsBelow && rightIsBelow && !redBelowRed
                && node.size == node.left.size + node.right.size + 1;
        }

        private boolean isBetween(Node node, Node low, Node high) {
            return (low == nil || heap.compareNodes(low, node) < 0)
                && (high == nil || heap.compareNodes(node, high) < 0);
        }
    }
}
