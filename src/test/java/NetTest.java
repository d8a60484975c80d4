/** Promises 11 to 14, and 1, 10, 15, 16 where run() has to do with them. */
public final class NetTest {
    private static final int TOP = Integer.MAX_VALUE;

    public static void main(String[] args) {
        arcLimits();
        arcOrderOfRefusals();
        arcsMakeDistancesGo();
        runOnNoArcs();
        runEmptiesTheQueue();
        runRefusedChangesNothing();
        latestArcFirst();
        lesserKeysInRun();
        equalWaysKeepTheFirst();
        zeroLengthsAndLoops();
        wayTooLong();
        tooLongButNotShortest();
        tooLongBehindTooLong();
        greatestDistance();
        runTwice();
        Check.end("NetTest");
    }

    private static void arcLimits() {
        int[][] told = {{1, 1}, {0, 1}, {-9, 1}, {Integer.MIN_VALUE, 1}, {299, 299}, {300, 300}, {301, 300}, {TOP, 300}};
        for (int[] row : told) {
            FloorQueue x = new FloorQueue(2, row[0], 1);
            for (int i = 0; i < row[1]; i++) {
                Check.due("11: arc " + i + " of " + row[0], x.arc(i % 2, i % 3 % 2, i % 2), 0);
            }
            Check.due("11: no room after " + row[1], x.arc(0, 1, 0), FloorQueue.FULL);
            Check.due("16: arcs", x.count(1), row[1]);
        }
        int[][] lengths = {{0, 0}, {-1, 0}, {Integer.MIN_VALUE, 0}, {7, 7}};
        for (int[] row : lengths) {
            FloorQueue x = new FloorQueue(2, 9, row[0]);
            Check.due("11: negative", x.arc(0, 1, -1), FloorQueue.LOW);
            Check.due("11: most negative", x.arc(0, 1, Integer.MIN_VALUE), FloorQueue.LOW);
            Check.due("11: none", x.arc(0, 1, 0), 0);
            Check.due("11: greatest", x.arc(0, 1, row[1]), 0);
            Check.due("11: above it", x.arc(0, 1, row[1] + 1), FloorQueue.LOW);
            Check.due("11: far above it", x.arc(0, 1, TOP), FloorQueue.LOW);
        }
        Check.due("11: the greatest of all", new FloorQueue(2, 9, TOP).arc(0, 1, TOP), 0);
    }

    private static void arcOrderOfRefusals() {
        FloorQueue x = new FloorQueue(2, 1, 5);
        Check.due("11: bad and low", x.arc(2, 0, 6), FloorQueue.BAD);
        x.arc(0, 1, 5);
        Check.due("11: bad, low and full", x.arc(0, -1, -1), FloorQueue.BAD);
        Check.due("11: low and full", x.arc(0, 1, 6), FloorQueue.LOW);
        Check.due("11: full", x.arc(0, 1, 5), FloorQueue.FULL);
    }

    private static void arcsMakeDistancesGo() {
        FloorQueue x = new FloorQueue(3, 2, 5);
        x.arc(0, 1, 5);
        x.run(0);
        Check.due("11: refused", x.arc(0, 2, 6), FloorQueue.LOW);
        Check.due("11: refused", x.arc(0, 3, 1), FloorQueue.BAD);
        Check.due("13: a refused arc leaves them", x.distance(1), 5);
        Check.due("14: a refused arc leaves them", x.before(1), 0);
        Check.due("11: one more", x.arc(2, 2, 1), 0);
        Check.due("13: gone", x.distance(1), FloorQueue.BAD);
        Check.due("13: gone where they began", x.distance(0), FloorQueue.BAD);
        Check.due("14: gone", x.before(1), FloorQueue.BAD);
        Check.due("5: the floor stays", x.floor(), 5);
        x.run(0);
        Check.due("11: full", x.arc(0, 2, 1), FloorQueue.FULL);
        Check.due("13: a full net leaves them", x.distance(1), 5);
    }

    private static void runOnNoArcs() {
        FloorQueue x = new FloorQueue(3, 2, 5);
        Check.due("12: run", x.run(2), 0);
        Check.due("13: itself", x.distance(2), 0);
        Check.due("14: itself", x.before(2), FloorQueue.BAD);
        Check.due("13: another", x.distance(0), FloorQueue.BAD);
        Check.due("10: placed", x.placed(), 1);
        Check.due("16: calls", x.count(2), 1);
    }

    private static void runEmptiesTheQueue() {
        FloorQueue x = new FloorQueue(4, 2, 5);
        x.arc(1, 2, 3);
        x.push(0, 8);
        x.push(1, 9);
        x.push(3, 100);
        x.pop();
        Check.due("12: run", x.run(1), 0);
        Check.due("6: empty", x.size(), 0);
        Check.due("7: none there", x.key(3), FloorQueue.BAD);
        Check.due("8: none there", x.bucket(1), FloorQueue.BAD);
        for (int bucket = 0; bucket < 32; bucket++) {
            Check.due("9: bucket " + bucket, x.many(bucket), 0);
        }
        Check.due("5: the last one's key", x.floor(), 3);
        Check.due("2: below it", x.push(0, 2), FloorQueue.LOW);
        Check.due("2: at it", x.push(0, 3), 0);
        Check.due("10: 3 pushes, 2 by pop, run's 3, a push", x.placed(), 3 + 2 + 3 + 1);
        Check.due("16: calls", x.count(2), 3 + 2 + 1);
        Check.due("15: sound", x.sound(), true);
    }

    private static void runRefusedChangesNothing() {
        FloorQueue x = new FloorQueue(3, 2, 5);
        x.arc(0, 1, 4);
        x.run(0);
        x.push(2, 6);
        Check.due("12: none such", x.run(3), FloorQueue.BAD);
        Check.due("12: none such", x.run(-1), FloorQueue.BAD);
        Check.due("6: size", x.size(), 1);
        Check.due("7: key", x.key(2), 6);
        Check.due("5: floor", x.floor(), 4);
        Check.due("13: distance", x.distance(1), 4);
        Check.due("14: before", x.before(1), 0);
    }

    /** The latest arc is the shortest of three: the item comes once and gets no lesser key. */
    private static void latestArcFirst() {
        FloorQueue x = new FloorQueue(2, 9, 9);
        x.arc(0, 1, 9);
        x.arc(0, 1, 5);
        x.arc(0, 1, 1);
        x.run(0);
        Check.due("12: two pushes alone", x.count(2), 2);
        Check.due("13: the shortest", x.distance(1), 1);
        FloorQueue y = new FloorQueue(2, 9, 9);
        y.arc(0, 1, 1);
        y.arc(0, 1, 5);
        y.arc(0, 1, 9);
        y.run(0);
        Check.due("12: two pushes and two lesser keys", y.count(2), 4);
        Check.due("10: 9 to 5 to 1, then taken", y.placed(), 1 + 3 + 1);
        Check.due("13: the shortest", y.distance(1), 1);
    }

    private static void lesserKeysInRun() {
        FloorQueue x = new FloorQueue(4, 9, 20);
        x.arc(0, 3, 20);
        x.arc(0, 1, 1);
        x.arc(1, 2, 1);
        x.arc(2, 3, 1);
        x.arc(1, 3, 10);
        Check.due("12: run", x.run(0), 0);
        Check.due("13: by the longest chain", x.distance(3), 3);
        Check.due("14: the last that lowered it", x.before(3), 2);
        Check.due("14: 2", x.before(2), 1);
        Check.due("14: 1", x.before(1), 0);
        Check.due("16: 4 pushes, 2 lesser keys", x.count(2), 6);
        Check.due("15: sound", x.sound(), true);
    }

    private static void equalWaysKeepTheFirst() {
        FloorQueue x = new FloorQueue(4, 9, 20);
        x.arc(0, 2, 1);
        x.arc(0, 1, 2);
        x.arc(1, 3, 2);
        x.arc(2, 3, 3);
        x.run(0);
        Check.due("13: both ways are as long", x.distance(3), 4);
        Check.due("14: 2 was taken first", x.before(3), 2);
        Check.due("16: an equal key is no call", x.count(2), 4);
    }

    private static void zeroLengthsAndLoops() {
        FloorQueue x = new FloorQueue(3, 9, 0);
        x.arc(0, 0, 0);
        x.arc(0, 1, 0);
        x.arc(1, 0, 0);
        x.arc(1, 2, 0);
        x.arc(2, 2, 0);
        x.arc(2, 0, 0);
        Check.due("12: run", x.run(0), 0);
        Check.due("13: 0", x.distance(0), 0);
        Check.due("14: no way leads to where ways begin", x.before(0), FloorQueue.BAD);
        Check.due("13: 2", x.distance(2), 0);
        Check.due("14: 2", x.before(2), 1);
        Check.due("10: all in bucket 0", x.placed(), 3);
        Check.due("5: floor", x.floor(), 0);
    }

    /** The run goes on after a sum that is left out: the floor is that of the last one taken. */
    private static void wayTooLong() {
        FloorQueue x = new FloorQueue(5, 9, TOP);
        x.arc(0, 1, 1);
        x.arc(1, 2, TOP);
        x.arc(0, 3, 9);
        x.push(4, 5);
        Check.due("12: too long", x.run(0), FloorQueue.LOW);
        for (int item = 0; item < 5; item++) {
            Check.due("13: no distances, " + item, x.distance(item), FloorQueue.BAD);
            Check.due("14: no distances, " + item, x.before(item), FloorQueue.BAD);
        }
        Check.due("6: empty", x.size(), 0);
        Check.due("5: floor", x.floor(), 9);
        Check.due("16: a push before, three in run", x.count(2), 4);
        Check.due("15: sound", x.sound(), true);
        Check.due("12: elsewhere none is too long", x.run(3), 0);
        Check.due("13: there", x.distance(3), 0);
    }

    private static void tooLongButNotShortest() {
        FloorQueue x = new FloorQueue(4, 9, TOP);
        x.arc(0, 1, 1);
        x.arc(1, 2, TOP);
        x.arc(0, 3, 9);
        x.arc(3, 2, 9);
        x.arc(3, 0, TOP);
        x.arc(3, 3, TOP);
        Check.due("12: there is a shorter way, found later", x.run(0), 0);
        Check.due("13: by it", x.distance(2), 18);
        Check.due("14: by it", x.before(2), 3);
        x.arc(0, 2, TOP);
        x.arc(1, 2, TOP);
        Check.due("12: the item waits already", x.run(0), 0);
        Check.due("13: the same", x.distance(2), 18);
        FloorQueue y = new FloorQueue(3, 9, TOP);
        y.arc(0, 1, 1);
        y.arc(0, 2, 5);
        y.arc(1, 2, TOP);
        Check.due("12: left out while the item waits", y.run(0), 0);
        Check.due("13: as it was", y.distance(2), 5);
        Check.due("14: as it was", y.before(2), 0);
    }

    private static void tooLongBehindTooLong() {
        FloorQueue x = new FloorQueue(4, 9, TOP);
        x.arc(0, 1, TOP);
        x.arc(1, 2, 1);
        x.arc(2, 3, 0);
        Check.due("12: one above", x.run(0), FloorQueue.LOW);
        Check.due("5: floor", x.floor(), TOP);
        Check.due("2: the queue can still be used", x.push(0, TOP), 0);
        Check.due("4: there", x.pop(), 0);
        Check.due("12: from the next", x.run(1), 0);
        Check.due("13: far end", x.distance(3), 1);
        Check.due("13: an arc leads away from it", x.distance(0), FloorQueue.BAD);
    }

    private static void greatestDistance() {
        FloorQueue x = new FloorQueue(4, 9, TOP);
        x.arc(0, 1, TOP - 1);
        x.arc(1, 2, 1);
        x.arc(2, 3, 0);
        Check.due("12: just within", x.run(0), 0);
        Check.due("13: greatest", x.distance(2), TOP);
        Check.due("13: and nothing more", x.distance(3), TOP);
        Check.due("14: by", x.before(3), 2);
        Check.due("5: floor", x.floor(), TOP);
    }

    private static void runTwice() {
        FloorQueue x = new FloorQueue(4, 9, 9);
        x.arc(0, 1, 2);
        x.arc(2, 1, 3);
        x.run(0);
        int once = x.placed();
        Check.due("12: again", x.run(0), 0);
        Check.due("10: as much again", x.placed(), 2 * once);
        Check.due("12: from another", x.run(2), 0);
        Check.due("13: of the new run", x.distance(1), 3);
        Check.due("14: of the new run", x.before(1), 2);
        Check.due("13: not of the old one", x.distance(0), FloorQueue.BAD);
        x.push(3, 50);
        x.pop();
        Check.due("13: the queue's calls leave them", x.distance(1), 3);
    }
}
