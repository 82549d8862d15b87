/** One object, with its calls counted. */
final class Run implements Caller {
    private final VineRows x = new VineRows();
    private int calls = 0;

    @Override public long call(String name, int... a) {
        if (calls == Calls.MOST) {
            throw new IllegalStateException("a test asks more calls of one object than are promised");
        }
        calls++;
        return Calls.on(x, name, a);
    }
}
