/** A run of calls that can be made on as many new objects as a test needs. */
final class Scene {
    static final Scene NEW = new Scene(null, null);
    /** Twigs 0-1 1-3 3-4 3-5 5-2 2-6, worths 3 5 10 6 1 9 4. */
    static final String SEVEN = "v713352p3b4d5p6b0p9d2";
    /** Twigs 0-1 1-2 2-3 .. 6-7. */
    static final String PATH = "v8123456p1p1p1p1p1p1p1p1";
    /** Twigs from 0 to each other one. */
    static final String STAR = "v8000000p9b9d9p0b0d0p5b5";
    /** Twig 0-1, worths 1 3. */
    static final String TWO = "v2p1b2";

    /**
     * Sheets of each lane and one with nothing, no vine; the latest fault is NULL, so that a call that
     * sets it back, or leaves it, is seen.
     */
    static final Scene BARE = NEW.text(0, 0, SEVEN).cells(1, 2, 0, 4, 9, 13, 6, 1).cells(2, 1, 5, -6, 7)
        .then("cell", 3, 0, 0);

    /**
     * SEVEN with something of all that can be: twigs 0-5 1-3 3-4 3-5 5-2 2-6, worths 3 5 10 6 9 9 4, one graft,
     * two readings that are so; the latest fault is CAST.
     */
    static final Scene BUSY = BARE.then("vine", 0, 0, 0, 21).then("graft", 0, 5).then("load", 4, 8)
        .then("reading", 0, 5, 12).then("reading", 2, 6, 14).then("tell", 1).then("as", 0, 1);

    private final Scene ahead;
    private final String name;
    private final int[] a;

    private Scene(Scene ahead, String name, int... a) {
        this.ahead = ahead;
        this.name = name;
        this.a = a;
    }

    Scene then(String next, int... with) {
        return new Scene(this, next, with);
    }

    /** A sheet gets a new row of just these cells. */
    Scene cells(int k, int lane, int... cells) {
        Scene scene = then("sheet", k, lane, cells.length);
        for (int i = 0; i < cells.length; i++) {
            scene = scene.then("put", k, i, cells[i]);
        }
        return scene;
    }

    Scene text(int k, int lane, String text) {
        return cells(k, lane, text.chars().toArray());
    }

    static Scene vine(String text) {
        return NEW.text(0, 0, text).then("vine", 0, 0, 0, text.length());
    }

    <C extends Caller> C on(C caller) {
        if (ahead != null) {
            ahead.on(caller);
            caller.call(name, a);
        }
        return caller;
    }
}
