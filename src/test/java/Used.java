import java.util.Set;

/** A new BottleLine, called by name, of which no more than the document's 512 calls are asked. */
final class Used {
    private static final int MOST_CALLS = 512;
    private static final Set<String> BOOLEANS = Set.of("tray", "write", "pour", "begin", "share", "torn");
    private static final Set<String> WITHOUT_STATUS = Set.of("status", "top", "bottom", "feed", "fault");

    private final BottleLine x = new BottleLine();
    private int calls = 0;

    long call(String what, long... a) {
        calls++;
        if (calls > MOST_CALLS) {
            throw new IllegalStateException("the test makes more than 512 calls of one object");
        }
        return Real.call(x, what, a);
    }

    static boolean hasStatus(String what) {
        return !WITHOUT_STATUS.contains(what);
    }

    /** NONE, or false. */
    static long refusal(String what) {
        return BOOLEANS.contains(what) ? 0 : BottleLine.NONE;
    }
}
