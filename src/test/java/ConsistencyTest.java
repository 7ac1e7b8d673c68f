import java.lang.reflect.Array;
import java.lang.reflect.Field;

/**
 * Promise 51: isConsistent notices what no call can bring about. The calls of the face keep the state consistent, so
 * each test spoils the state from outside, in a way that one of the five checks alone can see.
 */
public final class ConsistencyTest {
    private int wrong = 0;

    public static void main(String[] args) throws ReflectiveOperationException {
        ConsistencyTest test = new ConsistencyTest();
        test.arrows();
        test.dockets();
        test.blocks();
        test.leastAmount();
        test.greatestAmount();
        test.accounts();
        test.places();
        if (test.wrong > 0) {
            System.exit(1);
        }
    }

    /** The third pedestal is hidden from the way by doubling alone. */
    private void arrows() throws ReflectiveOperationException {
        StatueChancery chancery = sound();
        chancery.addPedestal();
        chancery.setArrow(0, 1);
        chancery.setArrow(1, 2);
        setNumber(part(chancery, "plaza"), "pedestals", 1);
        expectSpoilt("arrows", chancery);
    }

    /** A negative bail is worth leaving out, but only trying all sets does. */
    private void dockets() throws ReflectiveOperationException {
        StatueChancery chancery = sound();
        chancery.issueWrit(0, 5, 10);
        setElement(part(chancery, "writs"), "bails", 0, -10);
        expectSpoilt("dockets", chancery);
    }

    /** A negative number of blocks is none for the table, but the search does not get past it. */
    private void blocks() throws ReflectiveOperationException {
        StatueChancery chancery = sound();
        setElement(part(chancery, "marble"), "store", 20, -1);
        setElement(part(chancery, "marble"), "added", 20, -1);
        expectSpoilt("blocks", chancery);
    }

    /** The same with one block of the weight 1, so that the ways differ for the amount 1 alone. */
    private void leastAmount() throws ReflectiveOperationException {
        StatueChancery chancery = new StatueChancery();
        chancery.addBlocks(1, 1);
        setElement(part(chancery, "marble"), "store", 20, -1);
        setElement(part(chancery, "marble"), "added", 20, -1);
        expectSpoilt("blocks for the amount 1", chancery);
    }

    /** A table that mistakes two blocks of the weight 20 for as many as one likes differs for the amount 60 alone. */
    private void greatestAmount() throws ReflectiveOperationException {
        StatueChancery chancery = new StatueChancery();
        chancery.addBlocks(20, 2);
        int[][] fewest = (int[][]) value(value(chancery, "till"), "fewest");
        fewest[20] = fewest[19];
        expectSpoilt("blocks for the amount 60", chancery);
    }

    private void accounts() throws ReflectiveOperationException {
        StatueChancery chancery = sound();
        setElement(part(chancery, "marble"), "added", 20, 1);
        expectSpoilt("accounts", chancery);
    }

    private void places() throws ReflectiveOperationException {
        StatueChancery chancery = sound();
        setElement(part(chancery, "plaza"), "places", 1, 0);
        expectSpoilt("places", chancery);
    }

    private StatueChancery sound() {
        StatueChancery chancery = new StatueChancery();
        chancery.addPedestal();
        chancery.addPedestal();
        chancery.addStatue(0, 5);
        chancery.addStatue(1, 5);
        chancery.addBlocks(5, 2);
        return chancery;
    }

    private void expectSpoilt(String what, StatueChancery chancery) {
        if (chancery.isConsistent()) {
            wrong++;
            System.out.println("51 isConsistent does not notice spoilt " + what);
        }
    }

    private static Object part(StatueChancery chancery, String name) throws ReflectiveOperationException {
        return value(value(chancery, "now"), name);
    }

    private static Object value(Object owner, String name) throws ReflectiveOperationException {
        return field(owner, name).get(owner);
    }

    private static void setNumber(Object owner, String name, int number) throws ReflectiveOperationException {
        field(owner, name).setInt(owner, number);
    }

    private static void setElement(Object owner, String name, int index, int number)
            throws ReflectiveOperationException {
        Array.setInt(value(owner, name), index, number);
    }

    private static Field field(Object owner, String name) throws ReflectiveOperationException {
        Field field = owner.getClass().getDeclaredField(name);
        field.setAccessible(true);
        return field;
    }
}
