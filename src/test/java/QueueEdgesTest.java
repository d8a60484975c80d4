/** The terms of the queue and promises 1 to 10: each sentence that names a boundary, by itself. */
public final class QueueEdgesTest {
    private static final int TOP = Integer.MAX_VALUE;
    private static final int BOTTOM = Integer.MIN_VALUE;
    private static final int BAD = FloorQueue.BAD;
    private static final int LOW = FloorQueue.LOW;
    private static final int[] FLOORS = {0, 1, 2, 5, 0x2AAAAAAA, 0x3FFFFFFF, 0x40000000, 0x55555555, TOP - 1, TOP};

    public static void main(String[] args) {
        terms();
        newObject();
        push();
        lower();
        pop();
        floor();
        size();
        key();
        bucket();
        many();
        placed();
        Check.end("QueueEdgesTest");
    }

    private static FloorQueue withItems(int n) {
        return new FloorQueue(n, 5, 5);
    }

    /** An empty queue with this floor: its last item was taken with it. */
    private static FloorQueue atFloor(int n, int floor) {
        FloorQueue x = withItems(n);
        x.push(n - 1, floor);
        x.pop();
        return x;
    }

    // Terms

    private static void terms() {
        itemsAndKeys();
        floorTerm();
        bucketZero();
        bucketOfHighestBit();
        placedWhenItComes();
        placedWithALesserKey();
        placedByTheNewFloor();
        placedNotOutOfBucketZero();
        placedOnceForEquals();
    }

    private static void itemsAndKeys() {
        Check.sentence("ITEMS 0 .. n - 1 may be in the queue, each with a KEY 0 .. 2^31 - 1.");
        for (int n : new int[] {1, 2, 40}) {
            FloorQueue x = withItems(n);
            for (int item = 0; item < n; item++) {
                Check.due("item " + item + " of " + n, x.push(item, item % 2 == 0 ? TOP : 0), 0);
            }
            Check.due("all at once, size", x.size(), n);
            Check.due("item -1", x.push(-1, 0), BAD);
            Check.due("item n", x.push(n, 0), BAD);
            for (int item = 0; item < n; item++) {
                Check.due("key of " + item, x.key(item), item % 2 == 0 ? TOP : 0);
            }
        }
        FloorQueue x = withItems(2);
        Check.due("key -1", x.push(0, -1), LOW);
        Check.due("key 2^31, wrapped around", x.push(0, TOP + 1), LOW);
        Check.due("neither came", x.size(), 0);
    }

    private static void floorTerm() {
        Check.sentence("The FLOOR is the key last taken (0 at first).");
        FloorQueue x = withItems(3);
        Check.due("at first", x.floor(), 0);
        x.push(0, 7);
        x.push(1, 5);
        x.lower(0, 6);
        Check.due("nothing taken yet", x.floor(), 0);
        x.pop();
        Check.due("5 taken", x.floor(), 5);
        x.lower(0, 5);
        x.push(2, TOP);
        Check.due("still 5", x.floor(), 5);
        x.pop();
        Check.due("5 taken again", x.floor(), 5);
        x.pop();
        Check.due("the greatest taken", x.floor(), TOP);
    }

    private static void bucketZero() {
        Check.sentence("An item is in BUCKET 0, if its key is the floor");
        for (int floor : FLOORS) {
            FloorQueue x = atFloor(2, floor);
            Check.due("push at " + floor, x.push(0, floor), 0);
            Check.due("bucket at " + floor, x.bucket(0), 0);
            if (floor < TOP) {
                x.push(1, floor + 1);
                Check.due("next to " + floor + " it is another", x.bucket(1) > 0, true);
                x.lower(1, floor);
                Check.due("lowered to " + floor, x.bucket(1), 0);
            }
        }
    }

    private static void bucketOfHighestBit() {
        Check.sentence("else in b, the number (from 1 on) of the highest bit in which they are unlike (1 .. 31).");
        for (int floor : FLOORS) {
            for (int b = 1; b <= 31; b++) {
                // With the floor's bit set, a key without it would be below the floor.
                if ((floor >> (b - 1) & 1) == 0) {
                    int least = (floor >> (b - 1) | 1) << (b - 1);
                    int greatest = least | ((1 << (b - 1)) - 1);
                    FloorQueue x = atFloor(3, floor);
                    x.push(0, least);
                    x.push(1, greatest);
                    Check.due("floor " + floor + ", key " + least, x.bucket(0), b);
                    Check.due("floor " + floor + ", key " + greatest, x.bucket(1), b);
                    Check.due("floor " + floor + ", many " + b, x.many(b), 2);
                }
            }
        }
        FloorQueue x = withItems(1);
        x.push(0, TOP);
        Check.due("the greatest of all", x.bucket(0), 31);
        x.lower(0, 0x40000000);
        Check.due("the least of bucket 31", x.bucket(0), 31);
        x.lower(0, 0x3FFFFFFF);
        Check.due("the greatest of bucket 30", x.bucket(0), 30);
        x.lower(0, 1);
        Check.due("the one key of bucket 1", x.bucket(0), 1);
    }

    private static void placedWhenItComes() {
        Check.sentence("PLACED is counted up by 1 each time that an item is put into a bucket: when it comes");
        FloorQueue x = withItems(3);
        x.push(0, 0);
        Check.due("into bucket 0", x.placed(), 1);
        x.push(1, TOP);
        Check.due("into bucket 31", x.placed(), 2);
        x.push(1, 5);
        x.push(2, -1);
        x.push(3, 5);
        Check.due("refused ones do not come", x.placed(), 2);
        x.pop();
        x.push(0, 0);
        Check.due("come again", x.placed(), 3);
    }

    private static void placedWithALesserKey() {
        Check.sentence("when it gets a lesser key that belongs into another bucket");
        FloorQueue x = withItems(2);
        x.push(0, 15);
        x.lower(0, 15);
        Check.due("the same key", x.placed(), 1);
        x.lower(0, 8);
        Check.due("the least of the same bucket", x.placed(), 1);
        x.lower(0, 7);
        Check.due("the next bucket", x.placed(), 2);
        x.lower(0, 9);
        x.lower(0, -1);
        x.lower(1, 0);
        Check.due("refused", x.placed(), 2);
        x.lower(0, 0);
        Check.due("bucket 0 at once", x.placed(), 3);
        x.lower(0, 0);
        Check.due("the same key there", x.placed(), 3);
    }

    private static void placedByTheNewFloor() {
        Check.sentence("if no item is in bucket 0, the items of the least bucket that has some are all put"
                + " into their buckets by the new floor (the one that is taken, too).");
        FloorQueue x = withItems(5);
        x.push(0, 15);
        x.push(1, 9);
        x.push(2, 8);
        x.push(3, 16);
        x.push(4, TOP);
        Check.due("least key", x.pop(), 2);
        Check.due("bucket 4 had three", x.placed(), 5 + 3);
        Check.due("9 by 8", x.bucket(1), 1);
        Check.due("15 by 8", x.bucket(0), 3);
        Check.due("16 stays", x.bucket(3), 5);
        Check.due("the greatest stays", x.bucket(4), 31);
        Check.due("the taken one is in none", x.bucket(2), BAD);
        Check.due("bucket 4 is empty", x.many(4), 0);
        Check.due("and so is bucket 0", x.many(0), 0);
        FloorQueue y = withItems(1);
        y.push(0, 1);
        y.pop();
        Check.due("one alone", y.placed(), 2);
        y.pop();
        Check.due("none is taken", y.placed(), 2);
    }

    private static void placedNotOutOfBucketZero() {
        Check.sentence("if no item is in bucket 0");
        FloorQueue x = withItems(4);
        x.push(0, 0);
        x.push(1, 0);
        x.push(2, 1);
        x.push(3, 3);
        x.pop();
        Check.due("the first of bucket 0", x.placed(), 4);
        Check.due("the second waits there", x.bucket(1), 0);
        x.pop();
        Check.due("the second of bucket 0", x.placed(), 4);
        Check.due("1 stays", x.bucket(2), 1);
        Check.due("3 stays", x.bucket(3), 2);
        x.pop();
        Check.due("the first of bucket 1", x.placed(), 5);
        Check.due("3 is not of that bucket", x.bucket(3), 2);
    }

    private static void placedOnceForEquals() {
        Check.sentence("all put into their buckets by the new floor");
        FloorQueue x = withItems(3);
        x.push(0, 8);
        x.push(1, 8);
        x.push(2, 8);
        x.pop();
        Check.due("three as large", x.placed(), 6);
        Check.due("two are at the floor", x.many(0), 2);
        x.pop();
        x.pop();
        Check.due("and go from there", x.placed(), 6);
    }

    // Promise 1

    private static void newObject() {
        Check.sentence("n items (1 .. 40), at most so many arcs (1 .. 300), the greatest length (0 .. 2^31 - 1),"
                + " each brought within.");
        int[] items = {BOTTOM, -1, 0, 1, 2, 39, 40, 41, TOP};
        int[] arcs = {BOTTOM, -1, 0, 1, 2, 299, 300, 301, TOP};
        int[] lengths = {BOTTOM, -1, 0, 1, 2, TOP - 1, TOP};
        for (int n : items) {
            for (int room : arcs) {
                for (int length : lengths) {
                    broughtWithin(n, room, length);
                }
            }
        }
        Check.sentence("Nothing is there.");
        nothingIsThere(new FloorQueue(40, 300, TOP), 40);
        nothingIsThere(new FloorQueue(BOTTOM, BOTTOM, BOTTOM), 1);
        nothingIsThere(new FloorQueue(TOP, TOP, TOP), 40);
    }

    private static void broughtWithin(int items, int arcs, int length) {
        String told = items + ", " + arcs + ", " + length + ": ";
        int n = items < 1 ? 1 : items > 40 ? 40 : items;
        int room = arcs < 1 ? 1 : arcs > 300 ? 300 : arcs;
        int greatest = length < 0 ? 0 : length;
        FloorQueue x = new FloorQueue(items, arcs, length);
        Check.due(told + "n", x.count(0), n);
        Check.due(told + "the last item", x.push(n - 1, 0), 0);
        Check.due(told + "past the last item", x.push(n, 0), BAD);
        Check.due(told + "above the greatest length", greatest == TOP ? LOW : x.arc(0, 0, greatest + 1), LOW);
        Check.due(told + "below 0", x.arc(0, 0, -1), LOW);
        for (int i = 0; i < room; i++) {
            Check.due(told + "arc " + i, x.arc(0, n - 1, i % 2 == 0 ? greatest : 0), 0);
        }
        Check.due(told + "no room", x.arc(0, n - 1, 0), FloorQueue.FULL);
        Check.due(told + "arcs", x.count(1), room);
    }

    private static void nothingIsThere(FloorQueue x, int n) {
        Check.due("size", x.size(), 0);
        Check.due("floor", x.floor(), 0);
        Check.due("placed", x.placed(), 0);
        Check.due("arcs", x.count(1), 0);
        Check.due("calls", x.count(2), 0);
        Check.due("sound", x.sound(), true);
        for (int item = 0; item < n; item++) {
            Check.due("key " + item, x.key(item), BAD);
            Check.due("bucket " + item, x.bucket(item), BAD);
            Check.due("distance " + item, x.distance(item), BAD);
            Check.due("before " + item, x.before(item), BAD);
            Check.due("lower " + item, x.lower(item, 0), BAD);
        }
        for (int b = 0; b <= 31; b++) {
            Check.due("many " + b, x.many(b), 0);
        }
        Check.due("pop", x.pop(), BAD);
    }

    // Promise 2

    private static void push() {
        Check.sentence("An item comes with a key: 0.");
        FloorQueue x = withItems(40);
        Check.due("the first item, the least key", x.push(0, 0), 0);
        Check.due("the last item, the greatest key", x.push(39, TOP), 0);
        Check.due("both are there", x.size(), 2);
        x.pop();
        Check.due("a taken one comes again", x.push(0, 0), 0);

        Check.sentence("BAD: none such, it is there");
        for (int item : new int[] {-1, 40, 41, BOTTOM, TOP}) {
            Check.due("item " + item, x.push(item, 7), BAD);
            Check.due("item " + item + " with a low key", x.push(item, -1), BAD);
        }
        Check.due("there, with the same key", x.push(39, TOP), BAD);
        Check.due("there, with a lesser key", x.push(39, 1), BAD);
        Check.due("there, with a low key", x.push(39, -1), BAD);
        Check.due("its key is as it was", x.key(39), TOP);

        Check.sentence("LOW: the key is below the floor.");
        for (int floor : FLOORS) {
            FloorQueue y = atFloor(2, floor);
            Check.due("1 below " + floor, y.push(0, floor - 1), LOW);
            Check.due("-1 by " + floor, y.push(0, -1), LOW);
            Check.due("the least by " + floor, y.push(0, BOTTOM), LOW);
            Check.due("none came", y.size(), 0);
            Check.due("at " + floor, y.push(0, floor), 0);
            Check.due("the greatest by " + floor, y.push(1, TOP), 0);
        }
    }

    // Promise 3

    private static void lower() {
        Check.sentence("An item gets another key: 0.");
        FloorQueue x = atFloor(40, 10);
        x.push(39, TOP);
        for (int key : new int[] {TOP, TOP - 1, 12, 11, 10, 10}) {
            Check.due("to " + key, x.lower(39, key), 0);
            Check.due("its key", x.key(39), key);
        }
        Check.due("the floor stays", x.floor(), 10);
        Check.due("the size stays", x.size(), 1);

        Check.sentence("BAD: it is not there");
        Check.due("never came", x.lower(0, 10), BAD);
        Check.due("never came, low key", x.lower(0, 9), BAD);
        x.pop();
        Check.due("was taken", x.lower(39, 10), BAD);
        for (int item : new int[] {-1, 40, BOTTOM, TOP}) {
            Check.due("item " + item, x.lower(item, 10), BAD);
            Check.due("item " + item + " with a low key", x.lower(item, -1), BAD);
        }

        Check.sentence("LOW: below the floor, or above the key that it has.");
        for (int floor : FLOORS) {
            FloorQueue y = atFloor(2, floor);
            int had = floor + (TOP - floor) / 2;
            y.push(0, had);
            Check.due("1 below " + floor, y.lower(0, floor - 1), LOW);
            Check.due("-1 by " + floor, y.lower(0, -1), LOW);
            Check.due("the least by " + floor, y.lower(0, BOTTOM), LOW);
            Check.due("1 above " + had, had == TOP ? LOW : y.lower(0, had + 1), LOW);
            Check.due("its key is as it was", y.key(0), had);
            Check.due("the same as " + had, y.lower(0, had), 0);
            Check.due("at " + floor, y.lower(0, floor), 0);
            Check.due("back to " + had, y.lower(0, had), had == floor ? 0 : LOW);
        }
    }

    // Promise 4

    private static void pop() {
        Check.sentence("The item with the least key, of several the least one, goes; the floor is its key.");
        FloorQueue x = withItems(40);
        x.push(7, TOP);
        x.push(3, TOP - 1);
        x.push(39, TOP - 1);
        x.push(0, TOP);
        int[] order = {3, 39, 0, 7};
        for (int i = 0; i < order.length; i++) {
            Check.due("turn " + i, x.pop(), order[i]);
            Check.due("floor", x.floor(), i < 2 ? TOP - 1 : TOP);
            Check.due("it is not there", x.key(order[i]), BAD);
            Check.due("size", x.size(), 3 - i);
        }
        popOfEquals();

        Check.sentence("BAD: there is none.");
        Check.due("a new one", withItems(1).pop(), BAD);
        Check.due("all taken", x.pop(), BAD);
        Check.due("the floor stays", x.floor(), TOP);
        x.push(5, TOP);
        Check.due("one came", x.pop(), 5);
        Check.due("and went", x.pop(), BAD);
        x.run(0);
        Check.due("after a run", x.pop(), BAD);
    }

    /** Equals in bucket 0, in another bucket, and equal only after a lesser key. */
    private static void popOfEquals() {
        for (int key : new int[] {0, 6, TOP}) {
            FloorQueue x = withItems(40);
            for (int item = 39; item >= 0; item--) {
                x.push(item, item % 3 == 0 ? TOP : key);
            }
            for (int item = 0; item < 40; item += 3) {
                x.lower(item, key);
            }
            for (int item = 0; item < 40; item++) {
                Check.due("equals with key " + key, x.pop(), item);
            }
        }
    }

    // Promises 5 to 10

    private static void floor() {
        Check.sentence("The floor.");
        FloorQueue x = withItems(2);
        Check.due("at first", x.floor(), 0);
        Check.due("nothing to take", x.pop(), BAD);
        Check.due("still", x.floor(), 0);
        x.push(0, 9);
        x.pop();
        x.push(1, 8);
        Check.due("a refused key", x.floor(), 9);
        x.push(1, TOP);
        x.pop();
        Check.due("the greatest", x.floor(), TOP);
        x.pop();
        Check.due("nothing more to take", x.floor(), TOP);
        x.run(1);
        Check.due("a run begins at 0 and took one item there", x.floor(), 0);
    }

    private static void size() {
        Check.sentence("How many items are there.");
        FloorQueue x = withItems(40);
        Check.due("none", x.size(), 0);
        for (int item = 0; item < 40; item++) {
            x.push(item, item);
            Check.due("after push " + item, x.size(), item + 1);
        }
        x.push(40, 1);
        x.push(0, 1);
        x.lower(39, 0);
        Check.due("as many as there can be", x.size(), 40);
        for (int left = 39; left >= 0; left--) {
            x.pop();
            Check.due("after pop", x.size(), left);
        }
        x.pop();
        Check.due("none to take", x.size(), 0);
    }

    private static void key() {
        Check.sentence("An item's key. BAD: it is not there.");
        FloorQueue x = withItems(40);
        Check.due("never came", x.key(0), BAD);
        x.push(0, 0);
        x.push(39, TOP);
        Check.due("the least", x.key(0), 0);
        Check.due("the greatest", x.key(39), TOP);
        x.lower(39, TOP - 1);
        Check.due("a lesser one", x.key(39), TOP - 1);
        x.pop();
        Check.due("taken", x.key(0), BAD);
        for (int item : new int[] {-1, 40, BOTTOM, TOP}) {
            Check.due("item " + item, x.key(item), BAD);
        }
        x.run(39);
        Check.due("emptied by run", x.key(39), BAD);
    }

    private static void bucket() {
        Check.sentence("An item's bucket. BAD: it is not there.");
        FloorQueue x = withItems(40);
        Check.due("never came", x.bucket(0), BAD);
        x.push(0, 0);
        x.push(39, TOP);
        Check.due("the least", x.bucket(0), 0);
        Check.due("the greatest", x.bucket(39), 31);
        x.pop();
        Check.due("taken", x.bucket(0), BAD);
        for (int item : new int[] {-1, 40, BOTTOM, TOP}) {
            Check.due("item " + item, x.bucket(item), BAD);
        }
        x.run(0);
        Check.due("emptied by run", x.bucket(39), BAD);
    }

    private static void many() {
        Check.sentence("How many items are in a bucket.");
        FloorQueue x = withItems(40);
        for (int item = 0; item < 40; item++) {
            x.push(item, item % 2 == 0 ? TOP : 0x40000000);
        }
        Check.due("all in the last", x.many(31), 40);
        for (int item = 0; item < 40; item++) {
            x.lower(item, 0);
        }
        Check.due("none in the last", x.many(31), 0);
        Check.due("all in the first", x.many(0), 40);
        x.pop();
        Check.due("one was taken", x.many(0), 39);
        x.run(0);
        Check.due("emptied by run", x.many(0), 0);

        Check.sentence("BAD: none such (0 .. 31).");
        for (int b : new int[] {-1, 32, 33, BOTTOM, TOP}) {
            Check.due("bucket " + b, x.many(b), BAD);
        }
        for (int b = 0; b <= 31; b++) {
            Check.due("bucket " + b, x.many(b), 0);
        }
    }

    private static void placed() {
        Check.sentence("PLACED, in all.");
        FloorQueue x = withItems(3);
        Check.due("at first", x.placed(), 0);
        x.push(0, 6);
        x.pop();
        Check.due("a push, a pop", x.placed(), 2);
        x.arc(0, 1, 5);
        x.run(0);
        Check.due("two pushes of run, and one item by a new floor", x.placed(), 5);
        x.run(3);
        Check.due("a run that is refused", x.placed(), 5);
        x.run(1);
        Check.due("one push of another run", x.placed(), 6);
    }
}
