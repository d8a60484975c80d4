import java.util.Random;

/** "An object is used for at most 512 calls after it has been made; what later calls answer is free." */
public final class LifeTest {
    private static final int TOP = Integer.MAX_VALUE;
    private static final int CALLS = 512;
    private static final int[] EDGES = {
        Integer.MIN_VALUE, Integer.MIN_VALUE + 1, -41, -1, 0, 1, 31, 32, 39, 40, 41, 300, 0x40000000, TOP - 1, TOP};

    public static void main(String[] args) {
        Check.sentence("An object is used for at most 512 calls after it has been made");
        queueToTheLastCall();
        netToTheLastCall();
        lastCallOfEachKind();
        Check.sentence("what later calls answer is free.");
        laterCallsStillEnd();
        Check.end("LifeTest");
    }

    /** 256 items come and go, each with the floor's key or one above it: no call is answered otherwise. */
    private static void queueToTheLastCall() {
        FloorQueue x = new FloorQueue(1, 1, 0);
        for (int call = 1; call < CALLS; call += 2) {
            Check.due("call " + call, x.push(0, call / 4), 0);
            Check.due("call " + (call + 1), x.pop(), 0);
        }
    }

    /** The fullest net, and run() for all the calls that are left: each answers as the model does. */
    private static void netToTheLastCall() {
        FloorQueue x = new FloorQueue(40, 300, TOP);
        Model model = new Model(40, 300, TOP);
        int call = 0;
        for (int i = 0; i < 300; i++, call++) {
            // Later arcs lead nearer and are longer, so that keys are made lesser again and again.
            int u = 39 - i % 40;
            int v = (u + 1 + i / 40) % 40;
            int length = 1 << (v > u ? 3 * (v - u) : 25);
            Check.due("arc " + i, x.arc(u, v, length), model.arc(u, v, length));
        }
        for (; call < CALLS - 4; call++) {
            Check.due("run " + call, x.run(call % 3), model.run(call % 3));
        }
        Check.due("placed", x.placed(), model.placed());
        Check.due("calls", x.count(2), model.count(2));
        Check.due("sound", x.sound(), true);
        Check.due("call 512: the farthest", x.distance(39), model.distance(39));
    }

    private static void lastCallOfEachKind() {
        Check.due("push", nearlyUsedUp().push(0, 8), 0);
        Check.due("push, LOW", nearlyUsedUp().push(0, 7), FloorQueue.LOW);
        Check.due("lower", nearlyUsedUp().lower(2, 8), 0);
        Check.due("pop", nearlyUsedUp().pop(), 2);
        Check.due("floor", nearlyUsedUp().floor(), 8);
        Check.due("size", nearlyUsedUp().size(), 1);
        Check.due("key", nearlyUsedUp().key(2), 9);
        Check.due("bucket", nearlyUsedUp().bucket(2), 1);
        Check.due("many", nearlyUsedUp().many(1), 1);
        Check.due("placed", nearlyUsedUp().placed(), 6);
        Check.due("arc", nearlyUsedUp().arc(0, 0, 0), 0);
        Check.due("run", nearlyUsedUp().run(0), 0);
        Check.due("distance", nearlyUsedUp().distance(1), 5);
        Check.due("before", nearlyUsedUp().before(1), 0);
        Check.due("sound", nearlyUsedUp().sound(), true);
        Check.due("count", nearlyUsedUp().count(2), 4);
    }

    /** After 511 calls: item 2 waits with key 9 by the floor 8, and 1 is at distance 5 from 0. */
    private static FloorQueue nearlyUsedUp() {
        FloorQueue x = new FloorQueue(3, 300, 9);
        x.arc(0, 1, 5);
        x.run(0);
        x.push(0, 8);
        x.pop();
        x.push(2, 9);
        for (int call = 5; call < CALLS - 1; call++) {
            x.size();
        }
        return x;
    }

    /** The answers are free, but a call that throws or never ends is none. */
    private static void laterCallsStillEnd() {
        for (int seed = 0; seed < 20; seed++) {
            Random random = new Random(seed);
            FloorQueue x = new FloorQueue(edge(random), edge(random), edge(random));
            for (int call = 0; call < 20 * CALLS; call++) {
                any(x, random);
            }
            Check.due("an object of " + 20 * CALLS + " calls is there", x.count(0) >= 1, true);
        }
    }

    private static int edge(Random random) {
        return random.nextInt(3) == 0 ? random.nextInt(40) : EDGES[random.nextInt(EDGES.length)];
    }

    private static void any(FloorQueue x, Random random) {
        switch (random.nextInt(15)) {
            case 0 -> x.push(edge(random), edge(random));
            case 1 -> x.lower(edge(random), edge(random));
            case 2 -> x.pop();
            case 3 -> x.floor();
            case 4 -> x.size();
            case 5 -> x.key(edge(random));
            case 6 -> x.bucket(edge(random));
            case 7 -> x.many(edge(random));
            case 8 -> x.placed();
            case 9 -> x.arc(edge(random), edge(random), edge(random));
            case 10 -> x.run(edge(random));
            case 11 -> x.distance(edge(random));
            case 12 -> x.before(edge(random));
            case 13 -> x.sound();
            default -> x.count(edge(random));
        }
    }
}
