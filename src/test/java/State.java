/** All that the calls tell of an object, as text, so that two objects can be compared. */
final class State {
    private static final int[] KEYS = {0, 1, 2, 114};

    private final RunKeeper x;
    private final StringBuilder text = new StringBuilder();

    private State(RunKeeper x) {
        this.x = x;
    }

    /** The object is used up by it: what waits in a batch is seen when it ends, what is safe behind a crash. */
    static String of(RunKeeper x) {
        State state = new State(x);
        state.tellAll();
        state.tell("end", () -> x.end(true));
        state.tellAll();
        state.tell("crash", x::crash);
        state.tellAll();
        return state.text.toString();
    }

    private void tell(String name, Due.Call call) {
        text.append(name).append(' ').append(Due.answerOf(call)).append('\n');
    }

    private void tellAll() {
        for (int what = 2; what <= 9; what++) {
            int asked = what;
            tell("count " + what, () -> x.count(asked, 0));
        }
        for (int level = 0; level <= 5; level++) {
            for (int r = 0; r < x.count(0, level); r++) {
                text.append(level).append(' ').append(Fill.run(x, level, r)).append('\n');
            }
        }
        for (int view = -1; view <= 5; view++) {
            tellView(view);
        }
    }

    private void tellView(int view) {
        for (int key : KEYS) {
            tell("get " + view + " " + key, () -> x.get(view, key));
            tell("next " + view + " " + key, () -> x.next(view, key));
        }
    }
}
