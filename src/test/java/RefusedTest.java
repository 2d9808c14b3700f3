import java.util.ArrayList;
import java.util.Arrays;
import java.util.List;

/**
 * "Nothing is promised beyond the answers and state changes described above": a call that is refused describes none.
 * Two objects get the same calls, one of them refused calls in between; all that they answer later is the same.
 */
public final class RefusedTest {
    private static final Checks C = new Checks("RefusedTest");
    private static final int MIN = Integer.MIN_VALUE;
    private static final int MAX = Integer.MAX_VALUE;
    private static final int[] WIDE = {-1, 5000, MIN, MAX};

    /** Brings an object into a state. */
    private interface State {
        void make(SortPacks x);
    }

    public static void main(String[] args) {
        C.holds("Not promised", "Nothing is promised beyond the answers and state changes described above");
        int[] input = Checks.mixed(3, 300, 40);
        int[] row = new PlainPacker(input, 1).row.bytes();
        int[] wrong = row.clone();
        wrong[row.length - 1] ^= 255;
        twins("new", x -> { });
        twins("an input", x -> Checks.feedAll(x, input));
        twins("packed", x -> {
            Checks.feedAll(x, input);
            x.pack();
        });
        twins("opened", x -> {
            Checks.feedAll(x, row);
            x.open();
        });
        twins("opened and an input", x -> {
            Checks.feedAll(x, row);
            x.open();
            Checks.feedAll(x, row);
        });
        twins("broken", x -> {
            Checks.feedAll(x, wrong);
            x.open();
            x.octets(4, 19);
        });
        twins("one alone", x -> {
            Checks.feedAll(x, wrong);
            x.open();
            x.alone(1);
            x.octets(4, 1);
        });
        twins("full", x -> {
            Checks.feedAll(x, row);
            x.open();
            Checks.feedAll(x, Checks.mixed(1, 1500, 256));
        });
        C.finish();
    }

    private static void twins(String name, State state) {
        SortPacks x = new SortPacks(2);
        SortPacks y = new SortPacks(2);
        state.make(x);
        state.make(y);
        refuse(name, x);
        C.dueBytes(name + ": all that is told", told(x), told(y));
        C.dueBytes(name + ": OUT", Checks.outSample(x), Checks.outSample(y));
        C.due(name + ": packed", x.pack(), y.pack());
        C.dueBytes(name + ": packed", Checks.outSample(x), Checks.outSample(y));
    }

    private static void bad(String call, int answer) {
        C.due(call + " is refused", answer, SortPacks.BAD);
    }

    /** Every call that can be refused, by arguments that are never right. */
    private static void refuse(String name, SortPacks x) {
        for (int wide : WIDE) {
            bad(name + ": end(" + wide + ")", x.end(wide));
            bad(name + ": octets(1, " + wide + ")", x.octets(1, wide));
            bad(name + ": spoil(" + wide + ", 1)", x.spoil(wide, 1));
            bad(name + ": spoil(0, " + wide + ")", x.spoil(0, wide));
            bad(name + ": drop(" + wide + ")", x.drop(wide));
            bad(name + ": count(" + wide + ")", x.count(wide));
            bad(name + ": block(" + wide + ", 1)", x.block(wide, 1));
            bad(name + ": block(0, " + wide + ")", x.block(0, wide));
            C.due(name + ": sum(" + wide + ")", x.sum(wide), 0);
            bad(name + ": choice(" + wide + ")", x.choice(wide));
            bad(name + ": length(" + wide + ", 0)", x.length(wide, 0));
            bad(name + ": length(0, " + wide + ")", x.length(0, wide));
            bad(name + ": mark(" + wide + ")", x.mark(wide));
            bad(name + ": alone(" + wide + ")", x.alone(wide));
            C.dueNoByte(x, wide);
        }
        if (x.count(0) < 20) {
            bad(name + ": end(0)", x.end(0));
        }
        if (x.count(0) == 1500) {
            C.due(name + ": feed", x.feed(1, 2, 3, 4, 5), SortPacks.FULL);
            C.due(name + ": octets", x.octets(1, 1), SortPacks.FULL);
            C.due(name + ": pass", x.pass(), SortPacks.FULL);
        }
    }

    private static int[] told(SortPacks x) {
        List<Integer> told = new ArrayList<>(Arrays.asList(x.rule(), x.mark(0), x.mark(1), x.mark(2), x.choice(0),
            x.choice(1), x.choice(4), x.length(0, 0), x.length(1, 5), x.length(2, 9), x.block(-1, 0), x.sum(0), x.sum(1)));
        for (int what = 0; what < 9; what++) {
            told.add(x.count(what));
            told.add(x.block(0, what));
            told.add(x.block(1, what));
        }
        return told.stream().mapToInt(Integer::intValue).toArray();
    }
}
