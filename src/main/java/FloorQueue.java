import java.util.Arrays;

/**
 * A queue whose least key never falls, in buckets by the highest bit in which a key and the
 * last one taken are unlike; and shortest ways in a net found by it.
 */
public final class FloorQueue {
    public static final int BAD = -1, LOW = -2, FULL = -3;

    private static final int MOST_ITEMS = 40;
    private static final int MOST_ARCS = 300;
    private static final int GREATEST_KEY = 0x7fffffff;
    private static final int BITS = 32;
    private static final int BUCKETS = 32;
    /** What stands in place of a bucket for an item that is not in the queue. */
    private static final int AWAY = -1;

    private final int items;
    private final int arcRoom;
    private final int greatestLength;

    private final int[] keys;
    private final int[] buckets;
    /** How many items each bucket has. */
    private final int[] members;
    private int floorKey;
    private int present;
    private int placings;
    /** Calls that gave an item its first key or a lesser one, whether or not its bucket changed. */
    private int keyings;

    /** For each item the arc that came last of those that begin there, or null. */
    private final Arc[] latestArcs;
    private int arcs;

    /** BAD where there is no distance, so that no row of flags is needed beside it. */
    private final int[] distances;
    private final int[] befores;

    /** An arc knows the one that came before it at the same item: the latest is met first. */
    private static final class Arc {
        private final int end;
        private final int length;
        private final Arc earlier;

        private Arc(int end, int length, Arc earlier) {
            this.end = end;
            this.length = length;
            this.earlier = earlier;
        }
    }

    public FloorQueue(int items, int arcs, int length) {
        this.items = Math.max(1, Math.min(items, MOST_ITEMS));
        this.arcRoom = Math.max(1, Math.min(arcs, MOST_ARCS));
        this.greatestLength = Math.max(0, length);
        this.keys = new int[this.items];
        this.buckets = new int[this.items];
        this.members = new int[BUCKETS];
        this.latestArcs = new Arc[this.items];
        this.distances = new int[this.items];
        this.befores = new int[this.items];
        Arrays.fill(this.buckets, AWAY);
        Arrays.fill(this.distances, BAD);
        Arrays.fill(this.befores, BAD);
    }

    public int push(int item, int key) {
        if (!isItem(item) || isThere(item)) {
            return BAD;
        }
        if (key < floorKey) {
            return LOW;
        }
        present++;
        keyings++;
        keys[item] = key;
        putIntoBucket(item);
        return 0;
    }

    public int lower(int item, int key) {
        if (!isThere(item)) {
            return BAD;
        }
        if (key < floorKey || key > keys[item]) {
            return LOW;
        }
        // The same key is allowed but is no lesser one, and count(2) tells of lesser ones alone.
        if (key < keys[item]) {
            keyings++;
            keys[item] = key;
            if (bucketFor(key) != buckets[item]) {
                putIntoBucket(item);
            }
        }
        return 0;
    }

    public int pop() {
        int lowest = lowestBucket();
        int least = leastItemIn(lowest);
        if (!isThere(least)) {
            return BAD;
        }
        floorKey = keys[least];
        if (lowest > 0) {
            spread(lowest);
        }
        takeOut(least);
        return least;
    }

    public int floor() {
        return floorKey;
    }

    public int size() {
        return present;
    }

    public int key(int item) {
        return isThere(item) ? keys[item] : BAD;
    }

    public int bucket(int item) {
        return isThere(item) ? buckets[item] : BAD;
    }

    public int many(int bucket) {
        return bucket >= 0 && bucket < BUCKETS ? members[bucket] : BAD;
    }

    public int placed() {
        return placings;
    }

    public int arc(int u, int v, int length) {
        if (!isItem(u) || !isItem(v)) {
            return BAD;
        }
        if (length < 0 || length > greatestLength) {
            return LOW;
        }
        if (arcs >= arcRoom) {
            return FULL;
        }
        latestArcs[u] = new Arc(v, length, latestArcs[u]);
        arcs++;
        forgetWays();
        return 0;
    }

    public int run(int from) {
        if (!isItem(from)) {
            return BAD;
        }
        emptyQueue();
        forgetWays();
        push(from, 0);
        // An item that was taken never comes back, so the queue is empty after n rounds.
        for (int round = 0; round < items && present > 0; round++) {
            takeNext();
        }
        if (isSomeWayTooLong()) {
            forgetWays();
            return LOW;
        }
        return 0;
    }

    public int distance(int item) {
        return isItem(item) ? distances[item] : BAD;
    }

    public int before(int item) {
        return isItem(item) ? befores[item] : BAD;
    }

    public boolean sound() {
        for (int item = 0; item < items; item++) {
            if (isThere(item) && !isWhereItBelongs(item)) {
                return false;
            }
        }
        return placings <= (long) BUCKETS * keyings;
    }

    public int count(int what) {
        switch (what) {
            case 0:
                return items;
            case 1:
                return arcs;
            case 2:
                return keyings;
            default:
                return BAD;
        }
    }

    private boolean isItem(int item) {
        return item >= 0 && item < items;
    }

    private boolean isThere(int item) {
        return isItem(item) && buckets[item] != AWAY;
    }

    private boolean isWhereItBelongs(int item) {
        return keys[item] >= floorKey && buckets[item] == bucketFor(keys[item]);
    }

    /** Neither a key nor the floor is ever negative, so bit 32 is always alike. */
    private int bucketFor(int key) {
        return BITS - Integer.numberOfLeadingZeros(key ^ floorKey);
    }

    private void putIntoBucket(int item) {
        leaveBucket(item);
        int bucket = bucketFor(keys[item]);
        buckets[item] = bucket;
        members[bucket]++;
        placings++;
    }

    private void leaveBucket(int item) {
        int bucket = buckets[item];
        if (bucket != AWAY) {
            members[bucket]--;
            buckets[item] = AWAY;
        }
    }

    private void takeOut(int item) {
        leaveBucket(item);
        present--;
    }

    private int lowestBucket() {
        for (int bucket = 0; bucket < BUCKETS; bucket++) {
            if (members[bucket] > 0) {
                return bucket;
            }
        }
        return BAD;
    }

    /** A lower bucket has lower keys, so the least item of the lowest bucket is the least of all. */
    private int leastItemIn(int bucket) {
        int least = BAD;
        for (int item = 0; item < items; item++) {
            if (isThere(item) && buckets[item] == bucket && (least == BAD || keys[item] < keys[least])) {
                least = item;
            }
        }
        return least;
    }

    /** The other buckets stay as they are: the old floor and the new one are alike above this bit. */
    private void spread(int bucket) {
        for (int item = 0; item < items; item++) {
            if (buckets[item] == bucket) {
                putIntoBucket(item);
            }
        }
    }

    private void emptyQueue() {
        Arrays.fill(buckets, AWAY);
        Arrays.fill(members, 0);
        present = 0;
        floorKey = 0;
    }

    private void forgetWays() {
        Arrays.fill(distances, BAD);
        Arrays.fill(befores, BAD);
    }

    private void takeNext() {
        int taken = pop();
        if (!isItem(taken)) {
            return;
        }
        distances[taken] = floorKey;
        for (Arc arc = latestArcs[taken]; arc != null; arc = arc.earlier) {
            tryWay(taken, arc);
        }
    }

    private void tryWay(int taken, Arc arc) {
        int end = arc.end;
        long sum = (long) distances[taken] + arc.length;
        if (distances[end] != BAD || sum > GREATEST_KEY) {
            return;
        }
        if (!isThere(end)) {
            push(end, (int) sum);
            befores[end] = taken;
        } else if (sum < keys[end]) {
            lower(end, (int) sum);
            befores[end] = taken;
        }
    }

    /** Only a sum that was left out as too large keeps an arc's end from being taken after its start. */
    private boolean isSomeWayTooLong() {
        for (int item = 0; item < items; item++) {
            if (distances[item] != BAD && leadsToUntaken(item)) {
                return true;
            }
        }
        return false;
    }

    private boolean leadsToUntaken(int item) {
        for (Arc arc = latestArcs[item]; arc != null; arc = arc.earlier) {
            if (distances[arc.end] == BAD) {
                return true;
            }
        }
        return false;
    }
}
