/** Promises 1 to 10, 15 and 16: the queue by itself. */
public final class QueueTest {
    private static final int TOP = Integer.MAX_VALUE;
    private static final int BOTTOM = Integer.MIN_VALUE;

    public static void main(String[] args) {
        newObject();
        push();
        lower();
        lowerWithinABucket();
        pop();
        popOfEquals();
        floorNeverFalls();
        sizeAndKey();
        bucketsOfPowers();
        bucketsByTheFloor();
        many();
        placed();
        placedWithBucketZero();
        placedAtMost();
        sound();
        count();
        wrongItems();
        Check.end("QueueTest");
    }

    private static void newObject() {
        int[][] told = {{1, 1}, {0, 1}, {-1, 1}, {BOTTOM, 1}, {2, 2}, {39, 39}, {40, 40}, {41, 40}, {TOP, 40}};
        for (int[] row : told) {
            FloorQueue x = new FloorQueue(row[0], 5, 5);
            Check.due("1: count(0) of " + row[0] + " items", x.count(0), row[1]);
            Check.due("1: the last item", x.push(row[1] - 1, 0), 0);
            Check.due("1: the one past it", x.push(row[1], 0), FloorQueue.BAD);
        }
        FloorQueue x = new FloorQueue(40, 300, TOP);
        Check.due("1: size", x.size(), 0);
        Check.due("1: floor", x.floor(), 0);
        Check.due("1: placed", x.placed(), 0);
        Check.due("1: arcs", x.count(1), 0);
        Check.due("1: calls", x.count(2), 0);
        Check.due("1: sound", x.sound(), true);
        for (int item = 0; item < 40; item++) {
            Check.due("1: key " + item, x.key(item), FloorQueue.BAD);
            Check.due("1: bucket " + item, x.bucket(item), FloorQueue.BAD);
            Check.due("1: distance " + item, x.distance(item), FloorQueue.BAD);
            Check.due("1: before " + item, x.before(item), FloorQueue.BAD);
        }
        for (int bucket = 0; bucket < 32; bucket++) {
            Check.due("1: many " + bucket, x.many(bucket), 0);
        }
        Check.due("1: pop", x.pop(), FloorQueue.BAD);
    }

    private static void push() {
        FloorQueue x = new FloorQueue(3, 1, 1);
        Check.due("2: push", x.push(0, 10), 0);
        Check.due("2: there already", x.push(0, 11), FloorQueue.BAD);
        Check.due("2: there already, and low", x.push(0, -1), FloorQueue.BAD);
        Check.due("2: its key stays", x.key(0), 10);
        Check.due("2: none such", x.push(3, 1), FloorQueue.BAD);
        Check.due("2: none such, and low", x.push(-1, -1), FloorQueue.BAD);
        Check.due("2: negative", x.push(1, -1), FloorQueue.LOW);
        Check.due("2: most negative", x.push(1, BOTTOM), FloorQueue.LOW);
        Check.due("2: a refused one is not there", x.size(), 1);
        Check.due("2: greatest key", x.push(1, TOP), 0);
        Check.due("2: greatest key is kept", x.key(1), TOP);
        Check.due("2: pop", x.pop(), 0);
        Check.due("2: below the floor", x.push(0, 9), FloorQueue.LOW);
        Check.due("2: at the floor, come again", x.push(0, 10), 0);
    }

    private static void lower() {
        FloorQueue x = new FloorQueue(3, 1, 1);
        Check.due("3: not there", x.lower(0, 0), FloorQueue.BAD);
        x.push(0, 100);
        x.push(1, 50);
        Check.due("3: above", x.lower(0, 101), FloorQueue.LOW);
        Check.due("3: above by far", x.lower(0, TOP), FloorQueue.LOW);
        Check.due("3: kept", x.key(0), 100);
        Check.due("3: the same", x.lower(0, 100), 0);
        Check.due("3: the same is not counted", x.count(2), 2);
        Check.due("3: the same is not placed", x.placed(), 2);
        Check.due("3: pop", x.pop(), 1);
        Check.due("3: below the floor", x.lower(0, 49), FloorQueue.LOW);
        Check.due("3: negative", x.lower(0, BOTTOM), FloorQueue.LOW);
        Check.due("3: not there and low", x.lower(1, -1), FloorQueue.BAD);
        Check.due("3: at the floor", x.lower(0, 50), 0);
        Check.due("3: its key", x.key(0), 50);
        Check.due("3: its bucket", x.bucket(0), 0);
        Check.due("3: none such", x.lower(3, 50), FloorQueue.BAD);
        Check.due("3: counted", x.count(2), 3);
        Check.due("3: floor unchanged", x.floor(), 50);
    }

    private static void lowerWithinABucket() {
        FloorQueue x = new FloorQueue(2, 1, 1);
        x.push(0, 15);
        Check.due("3: within bucket 4", x.lower(0, 8), 0);
        Check.due("3: bucket", x.bucket(0), 4);
        Check.due("10: not placed again", x.placed(), 1);
        Check.due("16: but counted", x.count(2), 2);
        Check.due("3: to bucket 3", x.lower(0, 7), 0);
        Check.due("10: placed again", x.placed(), 2);
        Check.due("9: none in 4", x.many(4), 0);
        Check.due("9: one in 3", x.many(3), 1);
        Check.due("6: size stays", x.size(), 1);
    }

    private static void pop() {
        FloorQueue x = new FloorQueue(4, 1, 1);
        Check.due("4: none", x.pop(), FloorQueue.BAD);
        x.push(3, 7);
        x.push(1, 9);
        x.push(2, TOP);
        x.lower(1, 8);
        Check.due("4: first", x.pop(), 3);
        Check.due("4: gone", x.key(3), FloorQueue.BAD);
        Check.due("5: floor", x.floor(), 7);
        Check.due("4: second", x.pop(), 1);
        Check.due("4: third", x.pop(), 2);
        Check.due("5: the greatest floor", x.floor(), TOP);
        Check.due("4: empty", x.pop(), FloorQueue.BAD);
        Check.due("5: floor stays", x.floor(), TOP);
        Check.due("2: at the greatest floor", x.push(0, TOP), 0);
        Check.due("8: bucket there", x.bucket(0), 0);
        Check.due("2: below it", x.push(1, TOP - 1), FloorQueue.LOW);
    }

    private static void popOfEquals() {
        FloorQueue x = new FloorQueue(40, 1, 1);
        for (int item = 39; item >= 0; item--) {
            x.push(item, 1000 + item % 2);
        }
        for (int turn = 0; turn < 40; turn++) {
            int want = turn < 20 ? 2 * turn : 2 * (turn - 20) + 1;
            Check.due("4: equal keys, turn " + turn, x.pop(), want);
        }
    }

    private static void floorNeverFalls() {
        FloorQueue x = new FloorQueue(2, 1, 1);
        x.push(0, 4);
        Check.due("5: a push leaves it", x.floor(), 0);
        x.pop();
        x.push(0, 4);
        Check.due("4: the same key again", x.pop(), 0);
        Check.due("5: same floor", x.floor(), 4);
        x.push(1, 3);
        Check.due("6: a low one did not come", x.size(), 0);
    }

    private static void sizeAndKey() {
        FloorQueue x = new FloorQueue(2, 1, 1);
        x.push(0, 0);
        x.push(1, 6);
        Check.due("6: two", x.size(), 2);
        Check.due("7: key 0", x.key(0), 0);
        Check.due("7: key 1", x.key(1), 6);
        x.pop();
        Check.due("6: one", x.size(), 1);
        Check.due("7: gone", x.key(0), FloorQueue.BAD);
        x.pop();
        x.pop();
        Check.due("6: never below none", x.size(), 0);
    }

    private static void bucketsOfPowers() {
        FloorQueue x = new FloorQueue(32, 1, 1);
        x.push(0, 0);
        Check.due("8: the floor's own", x.bucket(0), 0);
        for (int bit = 1; bit <= 31; bit++) {
            x.push(bit, 1 << (bit - 1));
            Check.due("8: bit " + bit, x.bucket(bit), bit);
            Check.due("9: bit " + bit, x.many(bit), 1);
        }
        FloorQueue y = new FloorQueue(32, 1, 1);
        for (int bit = 1; bit <= 31; bit++) {
            y.push(bit, (int) ((1L << bit) - 1));
            Check.due("8: all bits up to " + bit, y.bucket(bit), bit);
        }
    }

    private static void bucketsByTheFloor() {
        FloorQueue x = new FloorQueue(6, 1, 1);
        x.push(0, 12);
        x.push(1, 13);
        x.push(2, 15);
        x.push(3, 16);
        x.pop();
        Check.due("8: 13 by 12", x.bucket(1), 1);
        Check.due("8: 15 by 12", x.bucket(2), 2);
        Check.due("8: 16 by 12", x.bucket(3), 5);
        Check.due("8: taken", x.bucket(0), FloorQueue.BAD);
        x.push(4, 14);
        Check.due("8: 14 by 12", x.bucket(4), 2);
        Check.due("9: bucket 4 is empty", x.many(4), 0);
        Check.due("9: bucket 2", x.many(2), 2);
    }

    private static void many() {
        FloorQueue x = new FloorQueue(3, 1, 1);
        Check.due("9: below", x.many(-1), FloorQueue.BAD);
        Check.due("9: above", x.many(32), FloorQueue.BAD);
        Check.due("9: least", x.many(BOTTOM), FloorQueue.BAD);
        Check.due("9: greatest", x.many(TOP), FloorQueue.BAD);
        x.push(0, 0);
        x.push(1, TOP);
        Check.due("9: bucket 0", x.many(0), 1);
        Check.due("9: bucket 31", x.many(31), 1);
        x.pop();
        Check.due("9: bucket 0 after pop", x.many(0), 0);
        x.pop();
        Check.due("9: bucket 31 after pop", x.many(31), 0);
    }

    private static void placed() {
        FloorQueue x = new FloorQueue(4, 1, 1);
        x.push(0, 4);
        x.push(1, 5);
        x.push(2, 7);
        x.push(3, 8);
        x.push(3, 9);
        Check.due("10: four came", x.placed(), 4);
        x.pop();
        Check.due("10: bucket 3 spread, the taken one too", x.placed(), 7);
        x.pop();
        Check.due("10: bucket 1 spread", x.placed(), 8);
        x.pop();
        Check.due("10: bucket 2 spread", x.placed(), 9);
        x.pop();
        Check.due("10: bucket 4 spread", x.placed(), 10);
        x.pop();
        Check.due("10: none to take", x.placed(), 10);
    }

    private static void placedWithBucketZero() {
        FloorQueue x = new FloorQueue(4, 1, 1);
        x.push(0, 0);
        x.push(1, 0);
        x.push(2, 1);
        x.pop();
        x.pop();
        Check.due("10: taken out of bucket 0", x.placed(), 3);
        Check.due("8: the other stays", x.bucket(2), 1);
        x.pop();
        Check.due("10: then out of bucket 1", x.placed(), 4);
    }

    /** The dearest item: it is placed 32 times after one push of its own. */
    private static void placedAtMost() {
        FloorQueue x = new FloorQueue(40, 1, 1);
        x.push(39, TOP);
        int reached = 0;
        for (int bit = 30; bit >= 0; bit--) {
            reached |= 1 << bit;
            Check.due("8: still waiting, bit " + bit, x.bucket(39), bit + 1);
            x.push(0, reached);
            Check.due("4: the lesser one of equals", x.pop(), 0);
            Check.due("15: sound at bit " + bit, x.sound(), true);
        }
        Check.due("8: the floor itself", x.bucket(39), 0);
        Check.due("10: 32 for the one, 2 for each of 31", x.placed(), 32 + 2 * 31);
        Check.due("16: calls", x.count(2), 32);
    }

    private static void sound() {
        FloorQueue x = new FloorQueue(40, 1, 1);
        for (int turn = 0; turn < 150; turn++) {
            x.push(turn % 40, x.floor() + turn * 7919 % 1000);
            Check.due("15: after push " + turn, x.sound(), true);
            if (turn % 3 == 0) {
                x.pop();
                Check.due("15: after pop " + turn, x.sound(), true);
            }
        }
    }

    private static void count() {
        FloorQueue x = new FloorQueue(7, 3, 10);
        Check.due("16: n", x.count(0), 7);
        x.arc(0, 1, 1);
        x.arc(0, 1, 11);
        x.arc(0, 7, 1);
        Check.due("16: arcs that came", x.count(1), 1);
        x.push(0, 5);
        x.push(0, 5);
        x.push(1, -5);
        x.lower(0, 6);
        x.lower(1, 0);
        Check.due("16: refused calls are not counted", x.count(2), 1);
        x.lower(0, 4);
        x.pop();
        Check.due("16: lower counted, pop not", x.count(2), 2);
        for (int what : new int[] {-1, 3, 4, TOP, BOTTOM}) {
            Check.due("16: " + what, x.count(what), FloorQueue.BAD);
        }
    }

    private static void wrongItems() {
        FloorQueue x = new FloorQueue(5, 5, 5);
        x.push(0, 1);
        x.run(0);
        x.push(4, 1);
        for (int item : new int[] {-1, 5, 40, 41, TOP, BOTTOM}) {
            Check.due("2: " + item, x.push(item, 1), FloorQueue.BAD);
            Check.due("3: " + item, x.lower(item, 1), FloorQueue.BAD);
            Check.due("7: " + item, x.key(item), FloorQueue.BAD);
            Check.due("8: " + item, x.bucket(item), FloorQueue.BAD);
            Check.due("11: from " + item, x.arc(item, 0, 1), FloorQueue.BAD);
            Check.due("11: to " + item, x.arc(0, item, 1), FloorQueue.BAD);
            Check.due("12: " + item, x.run(item), FloorQueue.BAD);
            Check.due("13: " + item, x.distance(item), FloorQueue.BAD);
            Check.due("14: " + item, x.before(item), FloorQueue.BAD);
        }
        Check.due("6: nothing changed", x.size(), 1);
        Check.due("13: nothing changed", x.distance(0), 0);
    }
}
