import java.util.ArrayList;
import java.util.List;
import java.util.Map;
import java.util.TreeMap;

/**
 * The document told once more, as slowly and plainly as can be: no bucket is kept, each is worked
 * out from the key and the floor when it is asked for; distances come from rounds over all arcs.
 */
final class Model {
    static final int BAD = -1, LOW = -2, FULL = -3;

    private final int n;
    private final int room;
    private final int greatest;
    private final TreeMap<Integer, Integer> queue = new TreeMap<>();
    private final List<int[]> net = new ArrayList<>();
    private int floor = 0;
    private int placed = 0;
    private int calls = 0;
    private Map<Integer, Integer> distances = new TreeMap<>();
    private Map<Integer, Integer> befores = new TreeMap<>();

    Model(int items, int arcs, int length) {
        n = items < 1 ? 1 : items > 40 ? 40 : items;
        room = arcs < 1 ? 1 : arcs > 300 ? 300 : arcs;
        greatest = length < 0 ? 0 : length;
    }

    private boolean item(int item) {
        return 0 <= item && item < n;
    }

    private int belongs(int key) {
        int bit = 31;
        while (bit > 0 && (key >> (bit - 1)) == (floor >> (bit - 1))) {
            bit--;
        }
        return bit;
    }

    int push(int item, int key) {
        if (!item(item) || queue.containsKey(item)) {
            return BAD;
        }
        if (key < floor) {
            return LOW;
        }
        queue.put(item, key);
        placed++;
        calls++;
        return 0;
    }

    int lower(int item, int key) {
        if (!queue.containsKey(item)) {
            return BAD;
        }
        int had = queue.get(item);
        if (key < floor || key > had) {
            return LOW;
        }
        calls += key < had ? 1 : 0;
        placed += belongs(key) != belongs(had) ? 1 : 0;
        queue.put(item, key);
        return 0;
    }

    int pop() {
        int least = BAD;
        for (Map.Entry<Integer, Integer> each : queue.entrySet()) {
            if (least == BAD || each.getValue() < queue.get(least)) {
                least = each.getKey();
            }
        }
        if (least == BAD) {
            return BAD;
        }
        int lowest = belongs(queue.get(least));
        placed += lowest == 0 ? 0 : many(lowest);
        floor = queue.remove(least);
        return least;
    }

    int floor() {
        return floor;
    }

    int size() {
        return queue.size();
    }

    int key(int item) {
        return queue.getOrDefault(item, BAD);
    }

    int bucket(int item) {
        return queue.containsKey(item) ? belongs(queue.get(item)) : BAD;
    }

    int many(int bucket) {
        if (bucket < 0 || bucket > 31) {
            return BAD;
        }
        int found = 0;
        for (int key : queue.values()) {
            found += belongs(key) == bucket ? 1 : 0;
        }
        return found;
    }

    int placed() {
        return placed;
    }

    int arc(int u, int v, int length) {
        if (!item(u) || !item(v)) {
            return BAD;
        }
        if (length < 0 || length > greatest) {
            return LOW;
        }
        if (net.size() == room) {
            return FULL;
        }
        net.add(0, new int[] {u, v, length});
        distances = new TreeMap<>();
        befores = new TreeMap<>();
        return 0;
    }

    int run(int from) {
        if (!item(from)) {
            return BAD;
        }
        distances = new TreeMap<>();
        befores = new TreeMap<>();
        Map<Integer, Long> shortest = shortest(from);
        Map<Integer, Integer> by = byTheQueue(from);
        for (long way : shortest.values()) {
            if (way > Integer.MAX_VALUE) {
                return LOW;
            }
        }
        for (Map.Entry<Integer, Long> each : shortest.entrySet()) {
            distances.put(each.getKey(), (int) (long) each.getValue());
        }
        befores = by;
        return 0;
    }

    private Map<Integer, Long> shortest(int from) {
        Map<Integer, Long> ways = new TreeMap<>();
        ways.put(from, 0L);
        for (int round = 0; round < n; round++) {
            for (int[] arc : net) {
                if (ways.containsKey(arc[0])) {
                    ways.merge(arc[1], ways.get(arc[0]) + arc[2], Math::min);
                }
            }
        }
        return ways;
    }

    /** What run() does to the queue and its counts; answers by which item each one got its key. */
    private Map<Integer, Integer> byTheQueue(int from) {
        Map<Integer, Integer> by = new TreeMap<>();
        List<Integer> taken = new ArrayList<>();
        queue.clear();
        floor = 0;
        push(from, 0);
        for (int next = pop(); next != BAD; next = pop()) {
            taken.add(next);
            for (int[] arc : net) {
                long sum = (long) floor + arc[2];
                if (arc[0] != next || taken.contains(arc[1]) || sum > Integer.MAX_VALUE) {
                    continue;
                }
                boolean waits = queue.containsKey(arc[1]);
                if (waits && sum < queue.get(arc[1])) {
                    lower(arc[1], (int) sum);
                    by.put(arc[1], next);
                } else if (!waits) {
                    push(arc[1], (int) sum);
                    by.put(arc[1], next);
                }
            }
        }
        return by;
    }

    int distance(int item) {
        return distances.getOrDefault(item, BAD);
    }

    int before(int item) {
        return befores.getOrDefault(item, BAD);
    }

    int count(int what) {
        return what == 0 ? n : what == 1 ? net.size() : what == 2 ? calls : BAD;
    }
}
