/** The terms of the net and promises 11 to 16: each sentence that names a boundary, by itself. */
public final class NetEdgesTest {
    private static final int TOP = Integer.MAX_VALUE;
    private static final int BOTTOM = Integer.MIN_VALUE;
    private static final int BAD = FloorQueue.BAD;
    private static final int LOW = FloorQueue.LOW;
    private static final int FULL = FloorQueue.FULL;
    private static final int[] NO_ITEMS_OF_FOUR = {-1, 4, 40, 41, BOTTOM, TOP};

    public static void main(String[] args) {
        terms();
        arc();
        run();
        distance();
        before();
        sound();
        count();
        Check.end("NetEdgesTest");
    }

    /** Four items, and room for nine arcs of any length. */
    private static FloorQueue net(int[][] arcs) {
        FloorQueue x = new FloorQueue(4, 9, TOP);
        for (int[] arc : arcs) {
            Check.due("arc " + arc[0] + " to " + arc[1], x.arc(arc[0], arc[1], arc[2]), 0);
        }
        return x;
    }

    private static void noDistances(String when, FloorQueue x) {
        for (int item = 0; item < x.count(0); item++) {
            Check.due(when + ", distance of " + item, x.distance(item), BAD);
            Check.due(when + ", before " + item, x.before(item), BAD);
        }
    }

    // Terms

    private static void terms() {
        Check.sentence("THE NET has arcs from item to item with LENGTHS 0 .. the greatest that is told.");
        for (int greatest : new int[] {0, 1, 6, TOP - 1, TOP}) {
            FloorQueue x = new FloorQueue(2, 9, greatest);
            Check.due("least by " + greatest, x.arc(0, 1, 0), 0);
            Check.due("greatest by " + greatest, x.arc(1, 0, greatest), 0);
            Check.due("run", x.run(0), 0);
            Check.due("one way", x.distance(1), 0);
            Check.due("run", x.run(1), 0);
            Check.due("the other way", x.distance(0), greatest);
        }

        Check.sentence("A way's length is the sum of its arcs'.");
        FloorQueue x = net(new int[][] {{0, 1, 0}, {1, 2, TOP - 3}, {2, 3, 3}});
        Check.due("run", x.run(0), 0);
        Check.due("of none", x.distance(0), 0);
        Check.due("of one", x.distance(1), 0);
        Check.due("of two", x.distance(2), TOP - 3);
        Check.due("of three", x.distance(3), TOP);
    }

    // Promise 11

    private static void arc() {
        arcsThatCome();
        arcsOfNoItems();
        arcsOfNoLength();
        arcsWithoutRoom();
        arcsToWhereTheyBegin();
        distancesAreGone();
    }

    private static void arcsThatCome() {
        Check.sentence("One more arc: 0.");
        FloorQueue x = new FloorQueue(40, 300, 9);
        Check.due("first item to last", x.arc(0, 39, 9), 0);
        Check.due("last item to first", x.arc(39, 0, 0), 0);
        Check.due("the same once more", x.arc(39, 0, 0), 0);
        Check.due("the same, of another length", x.arc(39, 0, 1), 0);
        Check.due("each is one more", x.count(1), 4);
        x.push(0, 3);
        x.pop();
        x.push(1, 4);
        x.arc(1, 2, 2);
        Check.due("the queue is none of its business: floor", x.floor(), 3);
        Check.due("the queue is none of its business: size", x.size(), 1);
    }

    private static void arcsOfNoItems() {
        Check.sentence("BAD: none such items");
        FloorQueue x = new FloorQueue(4, 1, 9);
        for (int turn = 0; turn < 2; turn++) {
            for (int item : NO_ITEMS_OF_FOUR) {
                Check.due("from " + item, x.arc(item, 0, 1), BAD);
                Check.due("to " + item, x.arc(0, item, 1), BAD);
                Check.due("both " + item, x.arc(item, item, 1), BAD);
                Check.due("no such length either, " + item, x.arc(item, 0, 10), BAD);
                Check.due("no such length either, " + item, x.arc(0, item, -1), BAD);
            }
            Check.due("none came", x.count(1), turn);
            // In the second turn there is no room either.
            x.arc(0, 1, 9);
        }
    }

    private static void arcsOfNoLength() {
        Check.sentence("LOW: no such length");
        for (int greatest : new int[] {0, 1, 9, TOP - 1}) {
            FloorQueue x = new FloorQueue(4, 1, greatest);
            for (int turn = 0; turn < 2; turn++) {
                for (int length : new int[] {-1, BOTTOM, greatest + 1, TOP}) {
                    Check.due(length + " by " + greatest, x.arc(0, 1, length), LOW);
                    Check.due(length + " by " + greatest + ", to where it begins", x.arc(0, 0, length), LOW);
                }
                Check.due("none came", x.count(1), turn);
                // In the second turn there is no room either.
                x.arc(0, 1, greatest);
            }
        }
    }

    private static void arcsWithoutRoom() {
        Check.sentence("FULL: no room.");
        for (int room : new int[] {1, 2, 299, 300}) {
            FloorQueue x = new FloorQueue(4, room, 9);
            for (int i = 0; i < room; i++) {
                Check.due("arc " + i + " of " + room, x.arc(i % 4, i % 3, i % 10), 0);
            }
            Check.due("one more than " + room, x.arc(0, 1, 1), FULL);
            Check.due("to where it begins", x.arc(0, 0, 0), FULL);
            x.run(0);
            Check.due("a run makes no room", x.arc(0, 1, 1), FULL);
            Check.due("arcs", x.count(1), room);
        }
    }

    private static void arcsToWhereTheyBegin() {
        Check.sentence("(An arc to where it begins is none the worse.)");
        FloorQueue x = net(new int[][] {{0, 0, 0}, {0, 0, TOP}, {0, 1, 2}, {1, 1, TOP}, {1, 1, 0}, {1, 2, 1}});
        Check.due("they are arcs", x.count(1), 6);
        Check.due("a sum that leads back is no shortest distance", x.run(0), 0);
        Check.due("0", x.distance(0), 0);
        Check.due("before 0", x.before(0), BAD);
        Check.due("1", x.distance(1), 2);
        Check.due("before 1", x.before(1), 0);
        Check.due("2", x.distance(2), 3);
        Check.due("no call for them", x.count(2), 3);
        FloorQueue y = new FloorQueue(1, 1, 0);
        Check.due("it takes room", y.arc(0, 0, 0), 0);
        Check.due("as each does", y.arc(0, 0, 0), FULL);
        Check.due("run", y.run(0), 0);
        Check.due("the one item", y.distance(0), 0);
    }

    private static void distancesAreGone() {
        Check.sentence("Distances are gone.");
        FloorQueue x = net(new int[][] {{0, 1, 2}, {1, 2, 3}});
        x.run(0);
        Check.due("before it", x.distance(2), 5);
        Check.due("an arc that no way needs", x.arc(3, 3, 0), 0);
        noDistances("after it", x);
        x.run(0);
        Check.due("found again", x.distance(2), 5);
        Check.due("an arc that was there already", x.arc(0, 1, 2), 0);
        noDistances("after it", x);
        noDistances("an arc in a net without distances", net(new int[][] {{0, 1, 2}}));
    }

    // Promise 12

    private static void run() {
        runBegins();
        runTakesTheLatestFirst();
        runLeavesTheTakenAlone();
        runGivesLesserKeysAlone();
        runOfNone();
        runAtTheGreatestSum();
        runAboveTheGreatestSum();
        runLeavesOutLargerSums();
        runEnds();
    }

    private static void runBegins() {
        Check.sentence("the queue is emptied, the floor 0; then, by the queue's own calls: the item comes with key 0");
        FloorQueue x = new FloorQueue(4, 9, TOP);
        x.push(0, 9);
        x.pop();
        x.push(0, TOP);
        x.push(1, 9);
        int placed = x.placed();
        Check.due("from one that is there, by a floor above 0", x.run(0), 0);
        Check.due("distance", x.distance(0), 0);
        Check.due("empty", x.size(), 0);
        Check.due("the one that waited is not taken", x.distance(1), BAD);
        Check.due("floor", x.floor(), 0);
        Check.due("placed once, by push alone", x.placed(), placed + 1);
        Check.due("a key below the old floor", x.push(2, 1), 0);
        Check.due("bucket", x.bucket(2), 1);
    }

    private static void runTakesTheLatestFirst() {
        Check.sentence("for its arcs, the latest first");
        FloorQueue x = net(new int[][] {{0, 1, 4}, {0, 1, 2}, {0, 1, 1}});
        x.run(0);
        Check.due("1, then nothing lesser", x.count(2), 2);
        Check.due("placed", x.placed(), 3);
        FloorQueue y = net(new int[][] {{0, 1, 1}, {0, 1, 2}, {0, 1, 4}});
        y.run(0);
        Check.due("4, 2, 1", y.count(2), 4);
        Check.due("placed", y.placed(), 5);
        FloorQueue z = net(new int[][] {{0, 1, 1}, {2, 3, 0}, {0, 1, 4}, {3, 2, 0}, {0, 1, 2}});
        z.run(0);
        Check.due("2, not 4, then 1; others' arcs between", z.count(2), 3);
        Check.due("placed", z.placed(), 4);
    }

    private static void runLeavesTheTakenAlone() {
        Check.sentence("those they lead to (not taken yet)");
        FloorQueue x = net(new int[][] {{0, 1, 0}, {1, 0, 0}, {1, 2, 1}, {2, 0, 0}, {2, 1, 0}, {2, 2, 0}});
        Check.due("run", x.run(0), 0);
        Check.due("three came, none twice", x.count(2), 3);
        Check.due("before 0", x.before(0), BAD);
        Check.due("before 1", x.before(1), 0);
        Check.due("distance of 1", x.distance(1), 0);
    }

    private static void runGivesLesserKeysAlone() {
        Check.sentence("come with the sum as key, or get that as a lesser key.");
        FloorQueue x = net(new int[][] {{1, 3, 2}, {0, 3, 3}, {0, 1, 1}});
        x.run(0);
        Check.due("an equal sum is no lesser key", x.count(2), 3);
        Check.due("so who came first stays", x.before(3), 0);
        FloorQueue y = net(new int[][] {{1, 3, 1}, {0, 3, 3}, {0, 1, 1}});
        y.run(0);
        Check.due("less by 1", y.count(2), 4);
        Check.due("before", y.before(3), 1);
        Check.due("distance", y.distance(3), 2);
        FloorQueue z = net(new int[][] {{1, 3, 3}, {0, 3, 3}, {0, 1, 1}});
        z.run(0);
        Check.due("more by 1", z.count(2), 3);
        Check.due("distance", z.distance(3), 3);
    }

    private static void runOfNone() {
        Check.sentence("BAD: none such: nothing is changed.");
        for (int item : NO_ITEMS_OF_FOUR) {
            FloorQueue x = net(new int[][] {{0, 1, 2}});
            x.run(0);
            x.push(3, 8);
            String was = View.of(x);
            Check.due("from " + item, x.run(item), BAD);
            Check.due("after it", View.of(x), was);
        }
    }

    private static void runAtTheGreatestSum() {
        Check.sentence("above 2^31 - 1");
        FloorQueue x = net(new int[][] {{0, 1, TOP}});
        Check.due("one arc", x.run(0), 0);
        Check.due("distance", x.distance(1), TOP);
        FloorQueue y = net(new int[][] {{0, 1, TOP - 1}, {1, 2, 1}, {2, 3, 0}});
        Check.due("just as much", y.run(0), 0);
        Check.due("distance", y.distance(2), TOP);
        Check.due("distance with an arc of 0 more", y.distance(3), TOP);
        Check.due("floor", y.floor(), TOP);
    }

    private static void runAboveTheGreatestSum() {
        Check.sentence("LOW: some sum that would be an item's shortest distance is above 2^31 - 1:"
                + " there are no distances then.");
        int[][] lengths = {{TOP, 1}, {1, TOP}, {TOP - 1, 2}, {TOP, TOP}, {0x40000000, 0x40000000}};
        for (int[] row : lengths) {
            FloorQueue x = net(new int[][] {{0, 1, row[0]}, {1, 2, row[1]}});
            String told = row[0] + " and " + row[1];
            Check.due(told, x.run(0), LOW);
            noDistances(told, x);
            Check.due("each arc alone", x.run(1), 0);
            Check.due("distance", x.distance(2), row[1]);
            Check.due("again", x.run(0), LOW);
            noDistances("those of the run before, too", x);
        }
        FloorQueue x = net(new int[][] {{0, 1, TOP}, {1, 2, 1}, {2, 3, TOP}, {2, 2, 0}, {3, 0, 0}});
        Check.due("it is the only way on to two items", x.run(0), LOW);
        noDistances("two items", x);
        FloorQueue y = net(new int[][] {{0, 1, TOP}, {1, 3, 2}, {0, 2, TOP}, {2, 3, 1}});
        Check.due("two ways, both too long", y.run(0), LOW);
        noDistances("two ways", y);
    }

    private static void runLeavesOutLargerSums() {
        Check.sentence("(Larger sums are left out.)");
        FloorQueue x = net(new int[][] {{1, 2, TOP}, {0, 1, 1}, {3, 2, 1}, {0, 3, 9}});
        Check.due("the item comes later by a shorter way", x.run(0), 0);
        Check.due("distance", x.distance(2), 10);
        Check.due("before", x.before(2), 3);
        Check.due("no call for what is left out", x.count(2), 4);
        Check.due("and none is placed by it", x.placed(), 7);
        FloorQueue y = net(new int[][] {{1, 2, TOP}, {0, 1, 1}, {0, 2, TOP}});
        Check.due("the item waits with the greatest key", y.run(0), 0);
        Check.due("distance", y.distance(2), TOP);
        Check.due("before", y.before(2), 0);
        Check.due("no call for what is left out", y.count(2), 3);
        Check.due("and none is placed by it", y.placed(), 5);
        FloorQueue z = net(new int[][] {{2, 1, TOP}, {2, 0, TOP}, {0, 1, 1}, {0, 2, 2}});
        Check.due("the items are taken already", z.run(0), 0);
        Check.due("distance", z.distance(1), 1);
        Check.due("where ways begin", z.distance(0), 0);
        Check.due("arcs from what can't be come to", net(new int[][] {{1, 2, TOP}, {2, 3, TOP}}).run(0), 0);
    }

    private static void runEnds() {
        Check.sentence("The queue is empty then, the floor is the last one's key.");
        FloorQueue x = net(new int[][] {{0, 1, 5}, {1, 2, 0}, {0, 3, 7}, {1, 3, 3}});
        x.push(2, 100);
        Check.due("run", x.run(0), 0);
        Check.due("size", x.size(), 0);
        Check.due("floor", x.floor(), 7);
        Check.due("pop", x.pop(), BAD);
        Check.due("below the floor", x.push(0, 6), LOW);
        Check.due("at the floor", x.push(0, 7), 0);
        Check.due("one item alone", x.run(3), 0);
        Check.due("floor", x.floor(), 0);
        FloorQueue y = net(new int[][] {{0, 1, 5}, {1, 2, TOP}, {0, 3, 7}});
        y.push(2, 100);
        Check.due("a way too long", y.run(0), LOW);
        Check.due("size", y.size(), 0);
        for (int b = 0; b <= 31; b++) {
            Check.due("many " + b, y.many(b), 0);
        }
        Check.due("the last one that was taken", y.floor(), 7);
        Check.due("sound", y.sound(), true);
    }

    // Promises 13 and 14

    private static void distance() {
        Check.sentence("An item's distance. BAD: it can't be come to; no distances; none such.");
        FloorQueue x = net(new int[][] {{0, 1, 0}, {3, 0, 1}});
        noDistances("before the first run", x);
        x.run(0);
        Check.due("where ways begin", x.distance(0), 0);
        Check.due("by an arc of 0", x.distance(1), 0);
        Check.due("no arc leads to it", x.distance(2), BAD);
        Check.due("its arc leads the other way", x.distance(3), BAD);
        for (int item : NO_ITEMS_OF_FOUR) {
            Check.due("item " + item, x.distance(item), BAD);
        }
        x.push(1, 4);
        x.lower(1, 2);
        x.pop();
        Check.due("calls of the queue leave it", x.distance(1), 0);
        Check.due("of 0, too", x.distance(0), 0);
        x.run(3);
        Check.due("from elsewhere", x.distance(1), 1);
    }

    private static void before() {
        Check.sentence("The item before one on its way: that by which its distance came first"
                + " (the one that was taken when it got it).");
        FloorQueue x = net(new int[][] {{2, 3, 2}, {1, 3, 3}, {0, 3, 4}, {0, 2, 2}, {0, 1, 1}});
        x.run(0);
        Check.due("three ways as long: 0 was taken first", x.before(3), 0);
        FloorQueue y = net(new int[][] {{2, 3, 2}, {1, 3, 3}, {0, 3, 5}, {0, 2, 2}, {0, 1, 1}});
        y.run(0);
        Check.due("two as long: 1 was taken first", y.before(3), 1);
        FloorQueue z = net(new int[][] {{2, 3, 1}, {1, 3, 3}, {0, 3, 5}, {0, 2, 2}, {0, 1, 1}});
        z.run(0);
        Check.due("each better than the one before: the last", z.before(3), 2);
        FloorQueue w = net(new int[][] {{2, 1, 0}, {3, 1, 0}, {0, 2, 1}, {0, 3, 1}});
        w.run(0);
        Check.due("2 and 3 as near: the least is taken first", w.before(1), 2);

        Check.sentence("BAD: it is where ways begin; as above.");
        FloorQueue v = net(new int[][] {{1, 0, 0}, {0, 1, 0}, {0, 0, 0}, {3, 0, 1}});
        Check.due("no distances", v.before(1), BAD);
        v.run(0);
        Check.due("where ways begin", v.before(0), BAD);
        Check.due("the next", v.before(1), 0);
        Check.due("can't be come to", v.before(2), BAD);
        Check.due("can't be come to, but leads there", v.before(3), BAD);
        for (int item : NO_ITEMS_OF_FOUR) {
            Check.due("item " + item, v.before(item), BAD);
        }
        v.run(1);
        Check.due("where ways begin now", v.before(1), BAD);
        Check.due("where they began", v.before(0), 1);
    }

    // Promises 15 and 16; SoundTest has the states that no call leads to.

    private static void sound() {
        Check.sentence("PLACED is at most 32 for each push() and lower() so far, those of run() counted.");
        Check.due("no call yet", new FloorQueue(1, 1, 0).sound(), true);
        // Item 3 goes through all 32 buckets: what comes before it makes the floor climb bit by bit.
        FloorQueue x = new FloorQueue(4, 1, 1);
        x.push(3, TOP);
        int reached = 0;
        for (int bit = 30; bit >= 0; bit--) {
            Check.due("bucket", x.bucket(3), bit + 1);
            reached |= 1 << bit;
            x.push(0, reached);
            x.pop();
            Check.due("floor " + reached, x.sound(), true);
        }
        Check.due("bucket at the end", x.bucket(3), 0);
        Check.due("32 for item 3", x.placed(), 32 + 2 * 31);
        x.run(0);
        Check.due("after a run", x.sound(), true);
        Check.due("after a run that is refused", x.run(4) == BAD && x.sound(), true);

        Check.sentence("Whether each item is in the bucket where it belongs, none has a key below the floor");
        for (int key : new int[] {0, 1, 0x3FFFFFFF, 0x40000000, TOP}) {
            FloorQueue y = new FloorQueue(4, 1, 1);
            y.push(0, key);
            Check.due("came with " + key, y.sound(), true);
            y.push(1, TOP);
            y.lower(1, key);
            Check.due("lowered to " + key, y.sound(), true);
            y.pop();
            Check.due("one left by the floor " + key, y.sound(), true);
            y.push(2, key - 1);
            Check.due("one refused by the floor " + key, y.sound(), true);
        }
    }

    private static void count() {
        Check.sentence("0 items n, 1 arcs, 2 calls that placed an item at first or with a lesser key,"
                + " run()'s counted.");
        FloorQueue x = new FloorQueue(4, 2, 9);
        Check.due("n", x.count(0), 4);
        Check.due("arcs at first", x.count(1), 0);
        Check.due("calls at first", x.count(2), 0);
        x.arc(0, 1, 9);
        x.arc(0, 1, 10);
        x.arc(0, 4, 1);
        Check.due("one arc", x.count(1), 1);
        x.arc(0, 1, 9);
        x.arc(0, 1, 9);
        Check.due("as many as there is room for", x.count(1), 2);
        x.push(0, 12);
        x.push(0, 12);
        x.push(1, -1);
        x.push(4, 1);
        Check.due("a push, three refused", x.count(2), 1);
        x.lower(0, 8);
        Check.due("a lesser key in the same bucket", x.count(2), 2);
        x.lower(0, 8);
        Check.due("the same key is no lesser one", x.count(2), 2);
        x.lower(0, 9);
        x.lower(0, -1);
        x.lower(1, 0);
        Check.due("refused", x.count(2), 2);
        x.pop();
        x.pop();
        Check.due("pop places, but it is none of these calls", x.count(2), 2);
        x.run(0);
        Check.due("two pushes of run", x.count(2), 4);
        x.run(4);
        Check.due("a run that is refused", x.count(2), 4);
        Check.due("n stays", x.count(0), 4);
        Check.due("arcs stay", x.count(1), 2);

        Check.sentence("BAD: another number.");
        for (int what : new int[] {-1, 3, 4, BOTTOM, TOP}) {
            Check.due("count " + what, x.count(what), BAD);
        }
    }
}
