/** Two objects with the same past, one of which gets calls that must leave no trace. */
final class Twins {
    interface Calls {
        void make(IntervalRouter x);
    }

    private Twins() {
    }

    /** The calls save one state, and undo() brings all back. */
    static void undone(String net, Calls past, Calls change) {
        IntervalRouter x = with(net, past);
        IntervalRouter twin = with(net, past);
        change.make(x);
        x.undo();
        Expect.dueText("all that is seen behind undo()", seen(x), seen(twin));
    }

    static void leaveNoTrace(String net, Calls past, Calls calls) {
        IntervalRouter x = with(net, past);
        IntervalRouter twin = with(net, past);
        calls.make(x);
        Expect.dueText("all that is seen", seen(x), seen(twin));
    }

    private static IntervalRouter with(String net, Calls past) {
        IntervalRouter x = Nets.of(net);
        past.make(x);
        return x;
    }

    /** The state, what is derived from the network, all saved states, and the text at last; it uses the object up. */
    private static String seen(IntervalRouter x) {
        StringBuilder out = new StringBuilder();
        boolean more = true;
        for (int i = 0; i < 6 && more; i++) {
            out.append(x.digest()).append(' ').append(ways(x)).append('\n');
            more = steppedBack(x);
        }
        return out.append(x.parse()).append(' ').append(x.digest()).toString();
    }

    private static boolean steppedBack(IntervalRouter x) {
        try {
            x.undo();
            return true;
        } catch (IllegalStateException e) {
            return false;
        }
    }

    private static String ways(IntervalRouter x) {
        StringBuilder out = new StringBuilder();
        for (int v = 0; v < x.size(false); v++) {
            out.append(x.distance(0, v)).append(' ').append(x.goodLinks(0, v)).append(' ').append(x.bestSize(v));
        }
        return out.toString();
    }
}
