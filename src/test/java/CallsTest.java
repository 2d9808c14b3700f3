import java.util.Random;

/** Runs of any calls with any arguments: nothing is thrown but by out(), and every call ends. */
public final class CallsTest {
    private static final Checks C = new Checks("CallsTest");
    private static final int[] EDGES = {-2, -1, 0, 1, 2, 3, 8, 20, 21, 59, 60, 255, 256, 400, 401, 1500,
        Integer.MAX_VALUE, Integer.MIN_VALUE};

    public static void main(String[] args) {
        for (int seed = 0; seed < 1600; seed++) {
            Random random = new Random(seed);
            SortPacks x = new SortPacks(random.nextInt(12) - 1);
            // Each of these is four calls at most.
            for (int k = 0; k < 120; k++) {
                int call = random.nextInt(24);
                try {
                    call(x, call, random);
                } catch (Throwable e) {
                    C.due("seed " + seed + ", call " + k + " of kind " + call + ": " + e, 1, 0);
                }
            }
            // A BLOCK has more than 20 bytes: 1,500 hold fewer than 75.
            boolean holds = x.count(0) <= 1500 && x.count(1) <= 4000 && x.count(2) <= 1500 && x.block(-1, 0) <= 75;
            C.due("seed " + seed + ": bounds", holds ? 1 : 0, 1);
        }
        C.finish();
    }

    private static int any(Random random) {
        switch (random.nextInt(3)) {
            case 0: return EDGES[random.nextInt(EDGES.length)];
            case 1: return random.nextInt(300);
            default: return random.nextInt();
        }
    }

    private static void call(SortPacks x, int call, Random random) {
        int a = any(random);
        int b = any(random);
        switch (call) {
            case 0: x.feed(a, b, a ^ b, a + b, random.nextInt()); break;
            case 1: x.end(a); break;
            case 2: x.octets(a, b); break;
            case 3: x.octets(a, 1 + random.nextInt(40)); break;
            case 4: x.pack(); break;
            case 5: x.open(); break;
            case 6: x.rule(); break;
            case 7: case 8: x.pass(); break;
            case 9: x.spoil(a, b); break;
            case 10: case 11: x.spoil(random.nextInt(Math.max(1, x.count(0))), 1 << random.nextInt(8)); break;
            case 12: x.drop(a); break;
            case 13: out(x, a); break;
            case 14: out(x, random.nextInt(1 + x.count(1))); break;
            case 15: x.count(a); break;
            case 16: x.block(a, random.nextInt(11) - 1); break;
            case 17: x.sum(a); break;
            case 18: x.choice(a); break;
            case 19: x.length(random.nextInt(8) - 1, a); break;
            case 20: x.mark(random.nextInt(4) - 1); break;
            case 21: x.alone(random.nextInt(4) - 1); break;
            case 22: x.pack(); x.pass(); break;
            default: x.pack(); x.pass(); x.spoil(4 + random.nextInt(40), 1 << random.nextInt(8)); x.open(); break;
        }
    }

    private static void out(SortPacks x, int i) {
        boolean isThere = i >= 0 && i < x.count(1);
        boolean thrown = false;
        try {
            int got = x.out(i);
            C.due("out(" + i + ") is a byte", got >= 0 && got <= 255 ? 1 : 0, 1);
        } catch (ArrayIndexOutOfBoundsException e) {
            thrown = true;
        }
        C.due("out(" + i + ") throws", thrown ? 1 : 0, isThere ? 0 : 1);
    }
}
