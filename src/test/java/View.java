/** All that can be asked of an object without changing it, as one text. */
final class View {
    private View() {
    }

    static String of(FloorQueue x) {
        StringBuilder text = new StringBuilder();
        text.append("size ").append(x.size()).append(" floor ").append(x.floor());
        text.append(" placed ").append(x.placed()).append(" sound ").append(x.sound());
        for (int what = -1; what <= 3; what++) {
            text.append(" count").append(what).append(' ').append(x.count(what));
        }
        for (int item = -1; item <= x.count(0); item++) {
            text.append(" item").append(item).append(' ').append(x.key(item)).append(' ').append(x.bucket(item));
            text.append(' ').append(x.distance(item)).append(' ').append(x.before(item));
        }
        text.append(" many");
        for (int bucket = -1; bucket <= 32; bucket++) {
            text.append(' ').append(x.many(bucket));
        }
        return text.toString();
    }
}
