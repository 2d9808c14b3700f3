/** Promises 1 to 4, 8 to 10 and 12: the input. */
public final class InputTest {
    private static final Checks C = new Checks("InputTest");

    public static void main(String[] args) {
        newObject();
        feed();
        end();
        octets();
        pass();
        spoil();
        drop();
        count();
        apart();
        C.finish();
    }

    private static void newObject() {
        int[][] levels = {{1, 1}, {5, 5}, {9, 9}, {0, 1}, {-1, 1}, {10, 9},
            {Integer.MIN_VALUE, 1}, {Integer.MAX_VALUE, 9}};
        for (int[] level : levels) {
            C.due("count(3) of level " + level[0], new SortPacks(level[0]).count(3), level[1]);
        }
        SortPacks x = new SortPacks(4);
        for (int what = 0; what < 3; what++) {
            C.due("new: count(" + what + ")", x.count(what), 0);
        }
        C.due("new: rule", x.rule(), 0);
        C.due("new: block(-1, 0)", x.block(-1, 0), 0);
        C.due("new: block(0, 0)", x.block(0, 0), SortPacks.BAD);
        C.due("new: sum(0)", x.sum(0), 0);
        C.due("new: choice(0)", x.choice(0), SortPacks.BAD);
        C.due("new: length(0, 0)", x.length(0, 0), SortPacks.BAD);
        C.due("new: mark(0)", x.mark(0), SortPacks.BAD);
        C.due("new: alone(0)", x.alone(0), SortPacks.BAD);
        C.due("new: spoil(0, 1)", x.spoil(0, 1), SortPacks.BAD);
        C.due("new: pass", x.pass(), 0);
        C.due("new: drop(0)", x.drop(0), 0);
        C.dueNoByte(x, 0);
    }

    /** The input is seen by spoiling each byte twice. */
    private static int peek(SortPacks x, int i) {
        x.spoil(i, 255);
        return x.spoil(i, 255);
    }

    private static void feed() {
        SortPacks x = new SortPacks(1);
        C.due("feed", x.feed(0x01020304, 0x80FF7F00, -1, 0, Integer.MIN_VALUE), 20);
        int[] due = {1, 2, 3, 4, 128, 255, 127, 0, 255, 255, 255, 255, 0, 0, 0, 0, 128, 0, 0, 0};
        for (int i = 0; i < 20; i++) {
            C.due("byte " + i, peek(x, i), due[i]);
        }
        for (int n = 2; n <= 75; n++) {
            C.due("feed " + n, x.feed(n, n, n, n, n), 20 * n);
        }
        C.due("feed above 1500", x.feed(1, 1, 1, 1, 1), SortPacks.FULL);
        C.due("FULL changes nothing", x.count(0), 1500);
        x.drop(19);
        C.due("feed at 1481", x.feed(1, 1, 1, 1, 1), SortPacks.FULL);
        x.drop(1);
        C.due("feed at 1480", x.feed(1, 1, 1, 1, 0x01010109), 1500);
        C.due("last byte", peek(x, 1499), 9);
    }

    private static void end() {
        SortPacks x = new SortPacks(1);
        C.due("end(0) of nothing", x.end(0), SortPacks.BAD);
        x.octets(5, 19);
        C.due("end(3) of 19", x.end(3), SortPacks.BAD);
        x.octets(6, 4);
        C.due("end(-1)", x.end(-1), SortPacks.BAD);
        C.due("end(21)", x.end(21), SortPacks.BAD);
        C.due("end(20)", x.end(20), 23);
        C.due("end(17)", x.end(17), 20);
        C.due("the first ones stay", peek(x, 18), 5);
        C.due("the first ones stay", peek(x, 19), 6);
        C.due("end(0)", x.end(0), 0);
        C.due("end(MIN)", x.end(Integer.MIN_VALUE), SortPacks.BAD);
    }

    private static void octets() {
        SortPacks x = new SortPacks(1);
        C.due("octets(0)", x.octets(1, 0), SortPacks.BAD);
        C.due("octets(-1)", x.octets(1, -1), SortPacks.BAD);
        C.due("octets(401)", x.octets(1, 401), SortPacks.BAD);
        C.due("octets(MAX)", x.octets(1, Integer.MAX_VALUE), SortPacks.BAD);
        C.due("octets(MIN)", x.octets(1, Integer.MIN_VALUE), SortPacks.BAD);
        C.due("octets(1)", x.octets(-2, 1), 1);
        C.due("lowest eight bits", peek(x, 0), 254);
        C.due("octets(400)", x.octets(0x1234, 400), 401);
        C.due("lowest eight bits", peek(x, 400), 0x34);
        x.octets(1, 400);
        x.octets(1, 400);
        C.due("octets(300) above", x.octets(1, 300), SortPacks.FULL);
        C.due("FULL changes nothing", x.count(0), 1201);
        C.due("octets(299)", x.octets(1, 299), 1500);
        C.due("octets(1) above", x.octets(1, 1), SortPacks.FULL);
        C.due("BAD goes before FULL", x.octets(1, 0), SortPacks.BAD);
    }

    private static void pass() {
        SortPacks x = new SortPacks(1);
        x.pack();
        C.due("pass", x.pass(), 14);
        C.due("OUT stays", x.count(1), 14);
        x.octets(7, 1);
        C.due("behind the input", x.pass(), 29);
        C.due("byte 14", peek(x, 14), 7);
        C.due("byte 15", peek(x, 15), 66);
        C.due("byte 28", peek(x, 28), 0);
        x.octets(7, 400);
        x.octets(7, 400);
        x.octets(7, 400);
        x.octets(7, 258);
        C.due("pass above 1500", x.pass(), SortPacks.FULL);
        C.due("FULL changes nothing", x.count(0), 1487);
        x.drop(1);
        C.due("pass to 1500", x.pass(), 1500);
    }

    private static void spoil() {
        SortPacks x = new SortPacks(1);
        x.octets(0xA5, 3);
        C.due("spoil", x.spoil(1, 0xFF), 0x5A);
        C.due("spoil", x.spoil(1, 1), 0x5B);
        C.due("others stay", x.spoil(0, 0x80), 0x25);
        C.due("others stay", x.spoil(2, 4), 0xA1);
        int[][] bad = {{3, 1}, {-1, 1}, {0, 0}, {0, 256}, {0, -1}, {Integer.MAX_VALUE, 1}, {Integer.MIN_VALUE, 1}};
        for (int[] b : bad) {
            C.due("spoil(" + b[0] + ", " + b[1] + ")", x.spoil(b[0], b[1]), SortPacks.BAD);
        }
        C.due("BAD changes nothing", peek(x, 0), 0x25);
    }

    private static void drop() {
        SortPacks x = new SortPacks(1);
        Checks.feedAll(x, new int[] {10, 20, 30, 40, 50});
        C.due("drop(-1)", x.drop(-1), SortPacks.BAD);
        C.due("drop(6)", x.drop(6), SortPacks.BAD);
        C.due("drop(MAX)", x.drop(Integer.MAX_VALUE), SortPacks.BAD);
        C.due("drop(0)", x.drop(0), 5);
        C.due("drop(2)", x.drop(2), 3);
        C.due("the first ones go", peek(x, 0), 30);
        C.due("the first ones go", peek(x, 2), 50);
        C.due("drop(3)", x.drop(3), 0);
        C.due("drop(1) of nothing", x.drop(1), SortPacks.BAD);
    }

    private static void count() {
        SortPacks x = new SortPacks(6);
        x.octets(1, 5);
        x.pack();
        x.pass();
        x.open();
        x.octets(9, 3);
        C.due("count(0)", x.count(0), 3);
        C.due("count(1)", x.count(1), 5);
        C.due("count(2)", x.count(2), 37);
        C.due("count(3)", x.count(3), 6);
        C.due("count(4)", x.count(4), SortPacks.BAD);
        C.due("count(-1)", x.count(-1), SortPacks.BAD);
        x.pack();
        C.due("pack leaves what open had", x.count(2), 37);
    }

    private static void apart() {
        SortPacks x = new SortPacks(1);
        SortPacks y = new SortPacks(1);
        x.octets(1, 8);
        x.pack();
        C.due("objects share nothing", y.count(0) + y.count(1) + y.block(-1, 0), 0);
        y.octets(1, 8);
        y.pack();
        C.dueBytes("same calls, same answers", Checks.outFrom(x, 0), Checks.outFrom(y, 0));
    }
}
