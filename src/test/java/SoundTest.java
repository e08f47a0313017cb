import java.lang.reflect.Constructor;
import java.lang.reflect.Field;

/** Damages the inside of an object, which no call can do, and looks whether sound() sees it. */
public final class SoundTest {
    private SoundTest() {
    }

    public static void main(String[] args) throws ReflectiveOperationException {
        Check.due("16: undamaged", true, map()::sound);
        due("a red root", "tree.root.red", true);
        due("red below red", "tree.root.left.red", true, "tree.root.left.left.red", true);
        due("a black one more on a way down", "tree.root.right.right.right.red", false);
        due("a wrong size", "tree.root.left.size", 99);
        due("a wrong size at the root", "tree.root.size", 5);
        due("a block too far on", "tree.root.block.start", 9999);
        due("a block over another", "tree.root.left.block.start", 0);
        due("a block that is too long", "tree.root.left.block.units", 3);
        due("an entry over a free block", "tree.root.left.block.owner", null);
        due("a value that goes on behind its block", "tree.root.left.valueBytes", 300);
        due("units that are not counted", "heap.used", 1);
        due("a heap that ends too early", "heap.capacity", 3);
        dueCopy("a link to another parent", "tree.root.left.left.parent", "tree.root");
        dueCopy("two entries in one block", "tree.root.left.block", "tree.root.block");
        dueCopy("a block of an entry that is not there", "tree.root.left", "tree.root.left.left");
        dueOutOfOrder();
        dueOneKeyTwice();
        dueRedRootAlone();
        dueRedBelowRed(3, 1, 2, 0);
        dueRedBelowRed(0, 1, 2, 3);
        dueThreeInALine();
        dueOwnersChanged();
        dueOwnerNotInTheTree();
        dueEmptyBlock();
        dueRootBelowAnother();
        dueRedEnd();
        Check.end();
    }

    private static OrderedBytes map() {
        OrderedBytes map = new OrderedBytes(30, 60);
        for (int i = 0; i < 20; i++) {
            Check.put(map, Check.row(2 * i), Check.filled(i * 2, i));
        }
        Check.remove(map, Check.row(8));
        return map;
    }

    private static void due(String damage, Object... pathsAndValues) throws ReflectiveOperationException {
        OrderedBytes map = map();
        for (int i = 0; i < pathsAndValues.length; i += 2) {
            set(map, (String) pathsAndValues[i], pathsAndValues[i + 1]);
        }
        Check.due("16: " + damage, false, map::sound);
    }

    private static void dueCopy(String damage, String to, String from) throws ReflectiveOperationException {
        OrderedBytes map = map();
        set(map, to, reach(map, from));
        Check.due("16: " + damage, false, map::sound);
    }

    /** The first byte of the root's block is its key: a greater one stands out of order. */
    private static void dueOutOfOrder() throws ReflectiveOperationException {
        for (int key : new int[] {0, 255}) {
            OrderedBytes map = map();
            byte[] bytes = (byte[]) reach(map, "heap.bytes");
            bytes[16 * (Integer) reach(map, "tree.root.block.start")] = (byte) key;
            Check.due("16: keys out of order", false, map::sound);
        }
    }

    private static OrderedBytes mapOf(int... keys) {
        OrderedBytes map = new OrderedBytes(30, 60);
        for (int key : keys) {
            Check.put(map, Check.row(key), new byte[0]);
        }
        return map;
    }

    private static void dueOneKeyTwice() throws ReflectiveOperationException {
        for (String below : new String[] {"left", "right"}) {
            OrderedBytes map = mapOf(2, 1, 3);
            byte[] bytes = (byte[]) reach(map, "heap.bytes");
            int root = (Integer) reach(map, "tree.root.block.start");
            int other = (Integer) reach(map, "tree.root." + below + ".block.start");
            bytes[16 * other] = bytes[16 * root];
            Check.due("16: one key twice", false, map::sound);
        }
    }

    private static void dueRedRootAlone() throws ReflectiveOperationException {
        OrderedBytes map = mapOf(1);
        set(map, "tree.root.red", true);
        Check.due("16: a red root without others", false, map::sound);
    }

    /** The fourth key lies red below a black one: with both below the root red, each way has still as many black ones. */
    private static void dueRedBelowRed(int... keys) throws ReflectiveOperationException {
        OrderedBytes map = mapOf(keys);
        Check.due("16: four entries", true, map::sound);
        set(map, "tree.root.left.red", true);
        set(map, "tree.root.right.red", true);
        Check.due("16: only red below red is wrong", false, map::sound);
    }

    /** All links, sizes and the order are right; only the colours can tell that the tree is not balanced. */
    private static void dueThreeInALine() throws ReflectiveOperationException {
        OrderedBytes map = mapOf(0, 1, 2);
        Object least = reach(map, "tree.root.left");
        Object middle = reach(map, "tree.root");
        Object nil = reach(map, "tree.nil");
        Object greatest = reach(map, "tree.root.right");
        set(map, "tree.root.left", nil);
        set(map, "tree.root.size", 2);
        setField(least, "right", middle);
        setField(middle, "parent", least);
        setField(least, "parent", nil);
        setField(least, "size", 3);
        setField(least, "red", false);
        setField(middle, "red", true);
        setField(greatest, "red", false);
        set(map, "tree.root", least);
        Check.due("16: three in a line", false, map::sound);
    }

    /** Both blocks are as long, and both owners are in the tree; only each has the other's block. */
    private static void dueOwnersChanged() throws ReflectiveOperationException {
        OrderedBytes map = mapOf(2, 1, 3);
        Object left = reach(map, "tree.root.left");
        set(map, "tree.root.left.block.owner", reach(map, "tree.root.right"));
        set(map, "tree.root.right.block.owner", left);
        Check.due("16: owners changed", false, map::sound);
    }

    /** A twin stands in the tree in the owner's place. */
    private static void dueOwnerNotInTheTree() throws ReflectiveOperationException {
        OrderedBytes map = mapOf(2, 1, 3);
        Object twin = made(reach(map, "tree.root.left"), 1);
        for (String name : new String[] {"block", "left", "right", "parent", "red", "size"}) {
            setField(twin, name, reach(map, "tree.root.left." + name));
        }
        set(map, "tree.root.left", twin);
        Check.due("16: an owner that is not in the tree", false, map::sound);
    }

    private static void dueEmptyBlock() throws ReflectiveOperationException {
        OrderedBytes map = mapOf(2, 1, 3);
        Object empty = made(reach(map, "heap.edge"), 0, 0);
        setField(empty, "behind", reach(map, "heap.edge.behind"));
        set(map, "heap.edge.behind", empty);
        Check.due("16: a block without units", false, map::sound);
    }

    private static void dueRootBelowAnother() throws ReflectiveOperationException {
        OrderedBytes map = mapOf(2, 1, 3);
        Object other = made(reach(map, "tree.root"), 1);
        for (String name : new String[] {"left", "right", "parent"}) {
            setField(other, name, reach(map, "tree.nil"));
        }
        set(map, "tree.root.parent", other);
        Check.due("16: a root below another node", false, map::sound);
    }

    private static void dueRedEnd() throws ReflectiveOperationException {
        OrderedBytes map = mapOf(1);
        set(map, "tree.nil.red", true);
        Check.due("16: a red end of the ways down", false, map::sound);
    }

    /** A new object of the same class as another one's, made from whole numbers. */
    private static Object made(Object alike, Object... numbers) throws ReflectiveOperationException {
        Constructor<?> constructor = alike.getClass().getDeclaredConstructors()[0];
        constructor.setAccessible(true);
        return constructor.newInstance(numbers);
    }

    private static Object reach(Object from, String path) throws ReflectiveOperationException {
        Object reached = from;
        for (String name : path.split("\\.")) {
            reached = field(reached, name).get(reached);
        }
        return reached;
    }

    private static void set(Object from, String path, Object value) throws ReflectiveOperationException {
        int dot = path.lastIndexOf('.');
        setField(reach(from, path.substring(0, dot)), path.substring(dot + 1), value);
    }

    private static void setField(Object owner, String name, Object value) throws ReflectiveOperationException {
        field(owner, name).set(owner, value);
    }

    private static Field field(Object owner, String name) throws ReflectiveOperationException {
        Field field = owner.getClass().getDeclaredField(name);
        field.setAccessible(true);
        return field;
    }
}
