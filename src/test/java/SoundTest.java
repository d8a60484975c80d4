import java.lang.reflect.Field;

/**
 * Promise 15 from its other side: no run of calls makes an object unsound, so its inside is
 * bent by hand here to see that sound() looks at each of the three things it tells of.
 */
public final class SoundTest {
    public static void main(String[] args) throws ReflectiveOperationException {
        FloorQueue x = fresh();
        Check.due("15: as it is", x.sound(), true);
        ((int[]) field("buckets").get(x))[1] = 3;
        Check.due("15: an item in another's bucket", x.sound(), false);

        x = fresh();
        field("floorKey").setInt(x, 6);
        ((int[]) field("buckets").get(x))[0] = 2;
        Check.due("15: a key below the floor", x.sound(), false);

        x = fresh();
        field("placings").setInt(x, 64);
        Check.due("15: 32 for each of two pushes", x.sound(), true);
        field("placings").setInt(x, 65);
        Check.due("15: one more than that", x.sound(), false);
        Check.end("SoundTest");
    }

    private static FloorQueue fresh() {
        FloorQueue x = new FloorQueue(3, 1, 1);
        x.push(0, 5);
        x.push(1, 9);
        return x;
    }

    private static Field field(String name) throws ReflectiveOperationException {
        Field field = FloorQueue.class.getDeclaredField(name);
        field.setAccessible(true);
        return field;
    }
}
