import java.lang.reflect.Constructor;
import java.lang.reflect.Field;
import java.lang.reflect.Method;
import java.util.Arrays;

/**
 * Two sentences that no input of 1,500 bytes is known to reach: a search found no OUT above 2,300 bytes, and weights
 * that are 1,800 together give no LENGTH above 15. They are held by reaching inside: an input that is longer than calls
 * can make it, and weights that are greater than it gives.
 */
public final class InsideTest {
    private static final Checks C = new Checks("InsideTest");

    public static void main(String[] args) throws ReflectiveOperationException {
        packFull();
        lengthsAbove17();
        C.finish();
    }

    /** The input has these bytes then, however many they are. */
    private static void stretch(SortPacks x, int[] bytes) throws ReflectiveOperationException {
        Object input = inside(SortPacks.class, "input").get(x);
        byte[] row = new byte[bytes.length];
        for (int k = 0; k < bytes.length; k++) {
            row[k] = (byte) bytes[k];
        }
        inside(input.getClass(), "bytes").set(input, row);
        inside(input.getClass(), "size").setInt(input, bytes.length);
    }

    private static Field inside(Class<?> owner, String name) throws ReflectiveOperationException {
        Field field = owner.getDeclaredField(name);
        field.setAccessible(true);
        return field;
    }

    /** An input that is packed to just so many bytes. */
    private static int[] packedTo(int due) {
        for (int seed = 0; seed < 40; seed++) {
            int[] input = Checks.mixed(seed, 2900, 256);
            int least = 2000;
            int most = 2900;
            while (least < most) {
                int size = (least + most) / 2;
                if (sizeOf(Arrays.copyOf(input, size)) < due) {
                    least = size + 1;
                } else {
                    most = size;
                }
            }
            if (sizeOf(Arrays.copyOf(input, least)) == due) {
                return Arrays.copyOf(input, least);
            }
        }
        C.due("an input that is packed to " + due + " bytes is found", 0, 1);
        return new int[0];
    }

    private static int sizeOf(int[] input) {
        return new PlainPacker(input, 1).row.bytes().length;
    }

    private static void packFull() throws ReflectiveOperationException {
        C.holds("Promise 5", "FULL: above 4,000 (OUT is empty, there are no blocks).");
        for (int size : new int[] {3999, 4000}) {
            int[] input = packedTo(size);
            SortPacks x = new SortPacks(1);
            stretch(x, input);
            C.due(size + " bytes", x.pack(), size);
            C.due(size + " bytes: OUT", x.count(1), size);
            C.due(size + " bytes: the last byte is one", x.out(size - 1) >= 0 ? 1 : 0, 1);
            C.dueNoByte(x, size);
            C.due(size + " bytes: the input", x.count(0), 0);
            C.due(size + " bytes: blocks", x.block(-1, 0), new PlainPacker(input, 1).facts.size());
        }
        for (int size : new int[] {4001, 4002, 4100}) {
            fullBehindAnother(size + " bytes", packedTo(size));
        }
    }

    private static void emptyBehindFull(String name, SortPacks x) {
        C.due(name + ": the input is empty then", x.count(0), 0);
        C.due(name + ": OUT is empty", x.count(1), 0);
        C.dueNoByte(x, 0);
        C.due(name + ": there are no blocks", x.block(-1, 0), 0);
        C.due(name + ": there are no blocks", x.block(0, 0), SortPacks.BAD);
        C.due(name + ": no SUM", x.sum(0), 0);
        C.due(name + ": no CHOICE", x.choice(0), SortPacks.BAD);
        C.due(name + ": no LENGTH", x.length(0, 0), SortPacks.BAD);
        C.due(name + ": nothing to pass", x.pass(), 0);
    }

    /** What was packed before does not come back; what open() had and its RULE stay. */
    private static void fullBehindAnother(String name, int[] tooMany) throws ReflectiveOperationException {
        SortPacks x = new SortPacks(1);
        x.octets(1, 5);
        x.pack();
        x.pass();
        x.spoil(0, 1);
        x.open();
        x.octets(2, 9);
        x.pack();
        stretch(x, tooMany);
        C.due(name, x.pack(), SortPacks.FULL);
        emptyBehindFull(name, x);
        C.due(name + ": rule() is that of open()", x.rule(), 2);
        C.due(name + ": what open() had stays", x.count(2), 37);
        C.due(name + ": its mark stays", x.mark(0), 32);
        C.due(name + ": its BLOCK is opened alone", x.alone(0), 5);
        x.octets(1, 5);
        C.due(name + ", then five", x.pack(), 37);
        C.due(name + ", then five: blocks", x.block(-1, 0), 1);
    }

    private static void lengthsAbove17() throws ReflectiveOperationException {
        C.holds("Terms 2", "If one is above 17: all weights are halved (whole), and 1, and all is done anew.");
        for (int many = 3; many <= 40; many++) {
            // Weights 1, 1, 2, 3, 5 .. are joined one behind the other: many less one is the longest.
            int[] often = new int[many];
            for (int v = 0; v < many; v++) {
                often[v] = v < 2 ? 1 : often[v - 1] + often[v - 2];
            }
            int[] lengths = made(often);
            int longest = Arrays.stream(lengths).max().orElse(0);
            C.due(many + " weights: 17 at most", longest <= 17 ? 1 : 0, 1);
            if (many <= 18) {
                C.due(many + " weights: 17 is not above", longest, many - 1);
            }
            C.dueBytes(many + " weights", lengths, PlainPacker.lengths(often));
            int[] falling = new int[many];
            for (int v = 0; v < many; v++) {
                falling[v] = often[many - 1 - v];
            }
            C.dueBytes(many + " falling weights", made(falling), PlainPacker.lengths(falling));
        }
        for (int many = 18; many <= 30; many++) {
            int[] often = new int[many];
            for (int v = 0; v < many; v++) {
                often[v] = 1 << v;
            }
            C.dueBytes(many + " doubled weights", made(often), PlainPacker.lengths(often));
        }
    }

    private static int[] made(int[] often) throws ReflectiveOperationException {
        Constructor<?> maker = Class.forName("SortPacks$TableMaker").getDeclaredConstructor();
        maker.setAccessible(true);
        Method make = maker.getDeclaringClass().getDeclaredMethod("makeLengths", int[].class, int.class, int[].class);
        make.setAccessible(true);
        int[] lengths = new int[often.length];
        make.invoke(maker.newInstance(), often, often.length, lengths);
        return lengths;
    }
}
