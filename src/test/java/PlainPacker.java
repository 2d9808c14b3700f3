import java.util.ArrayList;
import java.util.Collections;
import java.util.Comparator;
import java.util.List;
import java.util.TreeSet;

/** The document's PACKING written a second time, slowly and straight from its words. */
final class PlainPacker {
    final BitRow row = new BitRow();
    final List<int[]> facts = new ArrayList<>();
    final List<Integer> sums = new ArrayList<>();
    int[] choices = {};
    int[][] lengths = {};
    /** The bit at which THE END begins. */
    final int endMark;

    private final int rounds;

    PlainPacker(int[] input, int level) {
        this(input, level, 4);
    }

    /** Four rounds are the document's; another number shows whether a test would see it. */
    PlainPacker(int[] input, int level, int rounds) {
        this.rounds = rounds;
        row.head(level);
        int joined = 0;
        List<List<Integer>> plain = new ArrayList<>();
        List<List<Integer>> shortened = new ArrayList<>();
        cut(input, 200 * level, plain, shortened);
        for (int k = 0; k < plain.size(); k++) {
            int sum = BitRow.sum(ints(plain.get(k)));
            joined = (joined << 1 | joined >>> 31) ^ sum;
            packBlock(ints(shortened.get(k)), plain.get(k).size(), sum);
        }
        endMark = row.size();
        row.last(joined);
    }

    private static int[] ints(List<Integer> list) {
        return list.stream().mapToInt(Integer::intValue).toArray();
    }

    private static void cut(int[] input, int room, List<List<Integer>> plain, List<List<Integer>> shortened) {
        int at = 0;
        while (at < input.length) {
            int to = at;
            while (to < input.length && input[to] == input[at] && to - at < 255) {
                to++;
            }
            List<Integer> run = new ArrayList<>(Collections.nCopies(Math.min(4, to - at), input[at]));
            if (to - at >= 4) {
                run.add(to - at - 4);
            }
            int last = shortened.size() - 1;
            if (last < 0 || shortened.get(last).size() + run.size() > room) {
                plain.add(new ArrayList<>());
                shortened.add(new ArrayList<>());
                last++;
            }
            shortened.get(last).addAll(run);
            plain.get(last).addAll(Collections.nCopies(to - at, input[at]));
            at = to;
        }
    }

    private void packBlock(int[] block, int plainSize, int sum) {
        int n = block.length;
        List<Integer> turns = new ArrayList<>();
        for (int k = 0; k < n; k++) {
            turns.add(k);
        }
        turns.sort((a, b) -> compareTurns(block, a, b));
        TreeSet<Integer> signs = new TreeSet<>();
        for (int b : block) {
            signs.add(b);
        }
        int[] numbers = numbers(block, turns, new ArrayList<>(signs));
        makeTables(numbers, signs.size() + 2);
        facts.add(new int[] {row.size(), plainSize, n, turns.indexOf(0), signs.size(), lengths.length,
            choices.length, 0, numbers.length});
        sums.add(sum);
        HandBlock made = new HandBlock();
        made.sum = sum;
        made.origin = turns.indexOf(0);
        made.signs = ints(new ArrayList<>(signs));
        made.tables = lengths.length;
        made.places = places();
        made.lengths = lengths;
        made.writeHead(row);
        made.writeMap(row);
        made.writeChoices(row);
        made.writeLengths(row);
        for (int k = 0; k < numbers.length; k++) {
            row.put(HandBlock.code(lengths[choices[k / 50]], numbers[k]));
        }
    }

    private static int compareTurns(int[] block, int a, int b) {
        for (int k = 0; k < block.length; k++) {
            int x = block[(a + k) % block.length];
            int y = block[(b + k) % block.length];
            if (x != y) {
                return x - y;
            }
        }
        return a - b;
    }

    private static int[] numbers(int[] block, List<Integer> turns, List<Integer> front) {
        List<Integer> numbers = new ArrayList<>();
        int zeros = 0;
        for (int turn : turns) {
            Integer sign = block[(turn + block.length - 1) % block.length];
            int place = front.indexOf(sign);
            front.remove(place);
            front.add(0, sign);
            if (place == 0) {
                zeros++;
                continue;
            }
            digits(zeros, numbers);
            zeros = 0;
            numbers.add(place + 1);
        }
        digits(zeros, numbers);
        numbers.add(front.size() + 1);
        return ints(numbers);
    }

    private static void digits(int zeros, List<Integer> numbers) {
        int left = zeros;
        while (left > 0) {
            int digit = left % 2 == 1 ? 1 : 2;
            numbers.add(digit - 1);
            left = (left - digit) / 2;
        }
    }

    private void makeTables(int[] numbers, int alphabet) {
        int m = numbers.length;
        int tables = m < 200 ? 2 : m < 600 ? 3 : m < 1200 ? 4 : 5;
        int[][] costs = firstCosts(numbers, alphabet, tables);
        for (int round = 0; round < rounds; round++) {
            int[][] often = new int[tables][alphabet];
            choices = new int[(m + 49) / 50];
            for (int k = 0; k < choices.length; k++) {
                long least = Long.MAX_VALUE;
                for (int t = 0; t < tables; t++) {
                    long cost = 0;
                    for (int i = 50 * k; i < Math.min(m, 50 * k + 50); i++) {
                        cost += costs[t][numbers[i]];
                    }
                    if (cost < least) {
                        least = cost;
                        choices[k] = t;
                    }
                }
                for (int i = 50 * k; i < Math.min(m, 50 * k + 50); i++) {
                    often[choices[k]][numbers[i]]++;
                }
            }
            for (int t = 0; t < tables; t++) {
                costs[t] = lengths(often[t]);
            }
        }
        lengths = costs;
    }

    private static int[][] firstCosts(int[] numbers, int alphabet, int tables) {
        int[] counts = new int[alphabet];
        for (int number : numbers) {
            counts[number]++;
        }
        int[][] costs = new int[tables][alphabet];
        int left = numbers.length;
        int next = 0;
        for (int t = tables - 1; t >= 0; t--) {
            int wanted = left / (t + 1);
            List<Integer> taken = new ArrayList<>();
            int together = 0;
            while (together < wanted && next < alphabet) {
                together += counts[next];
                taken.add(next++);
            }
            if (taken.size() > 1 && t != tables - 1 && t != 0 && (tables - 1 - t) % 2 == 1) {
                next--;
                together -= counts[next];
                taken.remove(taken.size() - 1);
            }
            for (int v = 0; v < alphabet; v++) {
                costs[t][v] = taken.contains(v) ? 0 : 15;
            }
            left -= together;
        }
        return costs;
    }

    private record Joined(long weight, int came, List<Integer> members) { }

    static int[] lengths(int[] often) {
        long[] weights = new long[often.length];
        for (int v = 0; v < often.length; v++) {
            weights[v] = Math.max(1, often[v]);
        }
        while (true) {
            int[] lengths = new int[often.length];
            int longest = 0;
            List<Joined> nodes = new ArrayList<>();
            for (int v = 0; v < often.length; v++) {
                nodes.add(new Joined(weights[v], v, List.of(v)));
            }
            for (int came = often.length; nodes.size() > 1; came++) {
                nodes.sort(Comparator.comparingLong(Joined::weight).thenComparingInt(Joined::came));
                Joined a = nodes.remove(0);
                Joined b = nodes.remove(0);
                List<Integer> members = new ArrayList<>(a.members());
                members.addAll(b.members());
                for (int v : members) {
                    longest = Math.max(longest, ++lengths[v]);
                }
                nodes.add(new Joined(a.weight() + b.weight(), came, members));
            }
            if (longest <= 17) {
                return lengths;
            }
            for (int v = 0; v < often.length; v++) {
                weights[v] = weights[v] / 2 + 1;
            }
        }
    }

    private int[] places() {
        List<Integer> front = new ArrayList<>();
        for (int t = 0; t < lengths.length; t++) {
            front.add(t);
        }
        int[] places = new int[choices.length];
        for (int k = 0; k < choices.length; k++) {
            places[k] = front.indexOf(choices[k]);
            front.add(0, front.remove(places[k]));
        }
        return places;
    }
}
