import java.util.function.ToIntFunction;

/**
 * A refused call changes nothing, and neither does one that only looks. Two objects are led the same
 * way; one of them gets the call; then both must look alike, and go on answering alike to the end.
 */
public final class RefusedTest {
    private static final int TOP = Integer.MAX_VALUE;
    private static final int BOTTOM = Integer.MIN_VALUE;
    private static final int BAD = FloorQueue.BAD;
    private static final int LOW = FloorQueue.LOW;
    private static final int FULL = FloorQueue.FULL;
    private static final int N = 4;
    private static final int[] NO_ITEMS = {-1, N, 40, 41, BOTTOM, TOP};
    private static final int[] STATES = {0, 1, 2, 3};

    public static void main(String[] args) {
        push();
        lower();
        pop();
        lookingAtWhatIsNotThere();
        arc();
        run();
        looking();
        Check.end("RefusedTest");
    }

    /**
     * State 0: items 1 and 2 wait above a floor of 6, no distances. 1: the same, with distances and
     * the net full. 2: nothing waits, with distances. 3: nothing waits, a run has answered LOW.
     */
    private static FloorQueue led(int state) {
        FloorQueue x = new FloorQueue(N, 3, state == 3 ? TOP : 9);
        x.arc(0, 1, 4);
        x.arc(1, 2, state == 3 ? TOP : 2);
        if (state == 1) {
            x.arc(3, 3, 0);
        }
        if (state != 0) {
            x.run(0);
        }
        if (state < 2) {
            x.push(3, 6);
            x.push(1, 9);
            x.push(2, 9);
            x.pop();
            x.lower(2, 7);
        }
        return x;
    }

    private static void same(String call, int state, ToIntFunction<FloorQueue> asked, int want) {
        FloorQueue x = led(state);
        FloorQueue y = led(state);
        String told = call + " in state " + state;
        Check.due(told, asked.applyAsInt(x), want);
        Check.due("look after " + told, View.of(x), View.of(y));
        Check.due("going on after " + told, goingOn(x), goingOn(y));
    }

    /** What an object answers from here on tells of what cannot be looked at, its arcs above all. */
    private static String goingOn(FloorQueue x) {
        StringBuilder text = new StringBuilder();
        text.append(x.push(0, x.floor())).append(' ').append(x.lower(2, x.floor())).append(' ');
        for (int turn = 0; turn < N; turn++) {
            text.append(x.pop()).append(' ').append(x.placed()).append(' ');
        }
        for (int from = 0; from < N; from++) {
            text.append(x.run(from)).append(' ').append(x.floor()).append(' ');
            for (int item = 0; item < N; item++) {
                text.append(x.distance(item)).append(' ').append(x.before(item)).append(' ');
            }
        }
        text.append(x.arc(2, 0, 1)).append(' ').append(x.arc(2, 3, 1)).append(' ').append(x.run(2)).append(' ');
        return text.append(View.of(x)).toString();
    }

    private static void push() {
        Check.sentence("push BAD: none such");
        for (int state : STATES) {
            for (int item : NO_ITEMS) {
                same("push " + item, state, x -> x.push(item, TOP), BAD);
            }
        }
        Check.sentence("push LOW: the key is below the floor.");
        for (int state : STATES) {
            for (int key : new int[] {-1, BOTTOM}) {
                same("push with " + key, state, x -> x.push(0, key), LOW);
            }
            same("push by 1 below", state, x -> x.push(0, x.floor() - 1), LOW);
        }
        Check.sentence("push BAD: it is there");
        for (int state : new int[] {0, 1}) {
            for (int key : new int[] {-1, 5, 6, 8, 9, TOP}) {
                same("push what is there with " + key, state, x -> x.push(1, key), BAD);
            }
        }
    }

    private static void lower() {
        Check.sentence("lower BAD: it is not there");
        for (int state : STATES) {
            for (int key : new int[] {BOTTOM, 0, 6, TOP}) {
                same("lower what was taken to " + key, state, x -> x.lower(3, key), BAD);
                same("lower what never came to " + key, state, x -> x.lower(0, key), BAD);
            }
            for (int item : NO_ITEMS) {
                same("lower " + item, state, x -> x.lower(item, 6), BAD);
            }
        }
        Check.sentence("lower LOW: below the floor, or above the key that it has.");
        for (int state : new int[] {0, 1}) {
            for (int key : new int[] {BOTTOM, -1, 0, 5, 10, TOP}) {
                same("lower to " + key, state, x -> x.lower(1, key), LOW);
            }
            same("lower by 1 above", state, x -> x.lower(2, 8), LOW);
        }
    }

    private static void pop() {
        Check.sentence("pop BAD: there is none.");
        for (int state : new int[] {2, 3}) {
            same("pop", state, x -> x.pop(), BAD);
        }
    }

    private static void lookingAtWhatIsNotThere() {
        Check.sentence("key, bucket, many, distance, before, count BAD");
        for (int state : STATES) {
            for (int item : NO_ITEMS) {
                same("key " + item, state, x -> x.key(item), BAD);
                same("bucket " + item, state, x -> x.bucket(item), BAD);
                same("distance " + item, state, x -> x.distance(item), BAD);
                same("before " + item, state, x -> x.before(item), BAD);
            }
            for (int other : new int[] {-1, 32, BOTTOM, TOP}) {
                same("many " + other, state, x -> x.many(other), BAD);
                same("count " + other, state, x -> x.count(other), BAD);
            }
        }
    }

    private static void arc() {
        Check.sentence("arc BAD: none such items");
        for (int state : STATES) {
            for (int item : NO_ITEMS) {
                same("arc from " + item, state, x -> x.arc(item, 0, 1), BAD);
                same("arc to " + item, state, x -> x.arc(0, item, 1), BAD);
            }
        }
        Check.sentence("arc LOW: no such length");
        for (int state : STATES) {
            same("arc of -1", state, x -> x.arc(0, 2, -1), LOW);
            same("arc of the least", state, x -> x.arc(0, 2, BOTTOM), LOW);
            if (state != 3) {
                same("arc of 10", state, x -> x.arc(0, 2, 10), LOW);
                same("arc of the greatest", state, x -> x.arc(0, 2, TOP), LOW);
            }
        }
        Check.sentence("arc FULL: no room.");
        same("arc", 1, x -> x.arc(0, 2, 1), FULL);
        same("arc to where it begins", 1, x -> x.arc(0, 0, 0), FULL);
    }

    private static void run() {
        Check.sentence("run BAD: none such: nothing is changed.");
        for (int state : STATES) {
            for (int item : NO_ITEMS) {
                same("run " + item, state, x -> x.run(item), BAD);
            }
        }
    }

    private static void looking() {
        Check.sentence("floor, size, key, bucket, many, placed, distance, before, sound, count only look");
        for (int state : STATES) {
            same("looking", state, x -> View.of(x).length() > 0 ? 0 : BAD, 0);
        }
    }
}
