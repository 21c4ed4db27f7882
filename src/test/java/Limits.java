/** An argument that has a lowest and a highest value. */
final class Limits {
    interface CallWith {
        long answer(IntervalRouter x, int value);
    }

    private Limits() {
    }

    /** On new objects: all values of the range are taken; those next to it and the outermost ones are refused. */
    static void hold(String net, int lowest, int highest, Class<? extends RuntimeException> refusal, CallWith call) {
        taken(net, lowest, highest, call);
        refused(net, lowest, highest, refusal, call);
    }

    static void taken(String net, int lowest, int highest, CallWith call) {
        int last = Math.min(highest, lowest + 20);
        for (int value = lowest; value <= last; value++) {
            takes(net, value, call);
        }
        takes(net, highest, call);
    }

    static void refused(String net, int lowest, int highest, Class<? extends RuntimeException> refusal, CallWith call) {
        for (int value : new int[] {lowest - 1, highest + 1, Integer.MIN_VALUE, Integer.MAX_VALUE}) {
            IntervalRouter x = Nets.of(net);
            Expect.refused("value " + value, x, refusal, () -> call.answer(x, value));
        }
    }

    private static void takes(String net, int value, CallWith call) {
        String got = "an answer";
        try {
            call.answer(Nets.of(net), value);
        } catch (RuntimeException e) {
            got = e.toString();
        }
        Expect.dueText("value " + value, got, "an answer");
    }
}
