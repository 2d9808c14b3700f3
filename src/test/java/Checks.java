import java.util.Arrays;

/** Counts answers that are not as due; feeds and reads objects with few calls (512 are allowed each). */
final class Checks {
    private int wrong;
    private int asked;
    private int sentences;
    private int askedBefore;
    private String held = "";
    private final String name;

    Checks(String name) {
        this.name = name;
    }

    /** The answers that follow hold this sentence of the document; where: its promise, or its place in Terms. */
    void holds(String where, String sentence) {
        closeSentence();
        sentences++;
        askedBefore = asked;
        held = where + ", \"" + sentence + "\": ";
    }

    private void closeSentence() {
        if (!held.isEmpty() && asked == askedBefore) {
            wrong++;
            System.out.println(name + ": " + held + "nothing was asked");
        }
    }

    void due(String call, long got, long want) {
        asked++;
        if (got != want) {
            wrong++;
            System.out.println(name + ": " + held + call + " answered " + got + ", due is " + want);
        }
    }

    void dueBytes(String call, int[] got, int[] want) {
        asked++;
        if (!Arrays.equals(got, want)) {
            wrong++;
            System.out.println(name + ": " + held + call + " answered " + Arrays.toString(got)
                + ", due is " + Arrays.toString(want));
        }
    }

    /** out(i) throws exactly the exception that the document names. */
    void dueNoByte(SortPacks x, int i) {
        boolean thrown = false;
        try {
            x.out(i);
        } catch (RuntimeException e) {
            thrown = e.getClass() == ArrayIndexOutOfBoundsException.class;
        }
        due("out(" + i + ") throws", thrown ? 1 : 0, 1);
    }

    void finish() {
        closeSentence();
        System.out.println(name + ": " + sentences + " sentences, " + asked + " answers, " + wrong + " not as due");
        if (wrong != 0 || asked == 0) {
            System.exit(1);
        }
    }

    static SortPacks fed(int level, int[] bytes) {
        SortPacks x = new SortPacks(level);
        feedAll(x, bytes);
        return x;
    }

    /** Bytes come behind the input by feed() and end(); by octets() where twenty would be too many. */
    static void feedAll(SortPacks x, int[] bytes) {
        for (int at = 0; at < bytes.length; at += 20) {
            int n = Math.min(20, bytes.length - at);
            int[] five = new int[5];
            for (int k = 0; k < n; k++) {
                five[k / 4] |= bytes[at + k] << 24 - 8 * (k % 4);
            }
            if (x.feed(five[0], five[1], five[2], five[3], five[4]) == SortPacks.FULL) {
                for (int k = 0; k < n; k++) {
                    x.octets(bytes[at + k], 1);
                }
            } else if (n < 20) {
                x.end(n);
            }
        }
    }

    /** Up to 400 bytes of OUT from a place on. */
    static int[] outFrom(SortPacks x, int from) {
        int[] bytes = new int[Math.max(0, Math.min(400, x.count(1) - from))];
        for (int k = 0; k < bytes.length; k++) {
            bytes[k] = x.out(from + k);
        }
        return bytes;
    }

    /** Some 50 bytes of OUT, from all of it. */
    static int[] outSample(SortPacks x) {
        int size = x.count(1);
        int step = 1 + size / 50;
        int[] bytes = new int[(size + step - 1) / step];
        for (int k = 0; k < bytes.length; k++) {
            bytes[k] = x.out(step * k);
        }
        return bytes;
    }

    static int[] part(int[] bytes, int from) {
        return Arrays.copyOfRange(bytes, from, Math.min(bytes.length, from + 400));
    }

    static int[] times(int octet, int times) {
        int[] bytes = new int[times];
        Arrays.fill(bytes, octet);
        return bytes;
    }

    static int[] join(int[]... parts) {
        int[] all = new int[0];
        for (int[] next : parts) {
            int from = all.length;
            all = Arrays.copyOf(all, from + next.length);
            System.arraycopy(next, 0, all, from, next.length);
        }
        return all;
    }

    static int[] hex(String digits) {
        int[] bytes = new int[digits.length() / 2];
        for (int k = 0; k < bytes.length; k++) {
            bytes[k] = Integer.parseInt(digits.substring(2 * k, 2 * k + 2), 16);
        }
        return bytes;
    }

    /** Bytes that look like chance, the same in every run. */
    static int[] mixed(int seed, int size, int kinds) {
        java.util.Random random = new java.util.Random(seed);
        int[] bytes = new int[size];
        for (int k = 0; k < size; k++) {
            bytes[k] = random.nextInt(kinds);
        }
        return bytes;
    }

    /** Runs of all lengths around the edges 3, 4, 255. */
    static int[] runs(int seed, int size) {
        java.util.Random random = new java.util.Random(seed);
        int[] lengths = {1, 2, 3, 4, 5, 8, 254, 255, 256, 259, 300};
        int[] bytes = new int[0];
        while (bytes.length < size) {
            bytes = join(bytes, times(random.nextInt(6), lengths[random.nextInt(lengths.length)]));
        }
        return Arrays.copyOf(bytes, size);
    }
}
