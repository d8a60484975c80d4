import java.util.Random;

/** Runs of 512 calls, ordinary and wrong ones in any order, each answer held against the model's. */
public final class ModelTest {
    /** The document tells nothing about an object after so many calls. */
    private static final int CALLS = 512;
    private static final int SEEDS = 4000;

    private final int seed;
    private final Random random;
    private final int n;
    private final int room;
    private final int greatest;
    private final int spread;
    private final FloorQueue real;
    private final Model model;
    private int calls = 0;

    private ModelTest(int seed) {
        this.seed = seed;
        this.random = new Random(seed);
        this.n = 1 + random.nextInt(seed % 2 == 0 ? 40 : 8);
        this.room = 1 + random.nextInt(seed % 3 == 0 ? 300 : 30);
        this.greatest = seed % 4 == 0 ? Integer.MAX_VALUE : seed % 4 == 1 ? 3 : random.nextInt(5000);
        this.spread = 1 + random.nextInt(seed % 5 == 0 ? Integer.MAX_VALUE - 1 : 200);
        this.real = new FloorQueue(n, room, greatest);
        this.model = new Model(n, room, greatest);
    }

    public static void main(String[] args) {
        for (int seed = 0; seed < SEEDS; seed++) {
            new ModelTest(seed).go();
        }
        Check.end("ModelTest");
    }

    private void go() {
        // Every third run begins with a net, so that ways of many arcs are found in it.
        int first = seed % 3 == 0 ? Math.min(room, 3 * n) : 0;
        while (calls < first) {
            changeNet();
        }
        while (calls < CALLS) {
            if (random.nextInt(3) == 0) {
                change();
            } else {
                look();
            }
        }
    }

    private int item() {
        return random.nextInt(12) == 0 ? random.nextInt(3 * n + 2) - n - 1 : random.nextInt(n);
    }

    private int newKey() {
        int key = (int) Math.min((long) model.floor() + random.nextInt(spread), Integer.MAX_VALUE);
        return random.nextInt(15) == 0 ? random.nextInt() : key - random.nextInt(2) * random.nextInt(2);
    }

    /** Mostly between the floor and the key that the item has, both edges often. */
    private int lesserKey(int item) {
        int had = model.key(item);
        int above = had - model.floor();
        if (above <= 0 || random.nextInt(4) == 0) {
            return had + random.nextInt(3) - 1;
        }
        return random.nextInt(6) == 0 ? model.floor() - random.nextInt(2) : had - random.nextInt(above);
    }

    private int length() {
        int pick = random.nextInt(10);
        int within = greatest == Integer.MAX_VALUE ? greatest >> random.nextInt(31) : greatest;
        return pick == 0 ? random.nextInt() : pick == 1 ? greatest : (int) (random.nextDouble() * (within + 1L));
    }

    private void change() {
        int item = item();
        int pick = random.nextInt(12);
        if (pick < 4) {
            int key = newKey();
            say("push", item, key, real.push(item, key), model.push(item, key));
        } else if (pick < 6) {
            int key = lesserKey(item);
            say("lower", item, key, real.lower(item, key), model.lower(item, key));
        } else if (pick < 9) {
            say("pop", 0, 0, real.pop(), model.pop());
        } else if (pick < 11) {
            changeNet();
        } else {
            say("run", item, 0, real.run(item), model.run(item));
        }
    }

    private void changeNet() {
        int u = item();
        int v = item();
        int length = length();
        say("arc to " + v, u, length, real.arc(u, v, length), model.arc(u, v, length));
    }

    private void look() {
        int item = item();
        int bucket = random.nextInt(34) - 1;
        int what = random.nextInt(5) - 1;
        switch (random.nextInt(10)) {
            case 0 -> say("floor", 0, 0, real.floor(), model.floor());
            case 1 -> say("size", 0, 0, real.size(), model.size());
            case 2 -> say("key", item, 0, real.key(item), model.key(item));
            case 3 -> say("bucket", item, 0, real.bucket(item), model.bucket(item));
            case 4 -> say("many", bucket, 0, real.many(bucket), model.many(bucket));
            case 5 -> say("placed", 0, 0, real.placed(), model.placed());
            case 6 -> say("distance", item, 0, real.distance(item), model.distance(item));
            case 7 -> say("before", item, 0, real.before(item), model.before(item));
            case 8 -> say("sound", 0, 0, real.sound() ? 1 : 0, 1);
            default -> say("count", what, 0, real.count(what), model.count(what));
        }
    }

    private void say(String call, int first, int second, int got, int want) {
        calls++;
        // The text is made for wrong answers alone: there are millions of right ones.
        Check.due(got == want ? "" : "seed " + seed + ", call " + calls + ": " + call + " " + first + " " + second,
                got, want);
    }
}
