/** Compares answers with those that are due, and says at the end whether all were. */
final class Due {
    interface Call {
        Object make();
    }

    interface Deed {
        void make();
    }

    private final String test;
    private int seen = 0;
    private int wrong = 0;
    private String sentence = "";

    Due(String test) {
        this.test = test;
    }

    /** Names the sentence of the document that the answers from here on are due by. */
    void by(String words) {
        sentence = ", by \"" + words + "\"";
    }

    /** The answer of a call: what it returned as a text, or the name of what it threw. */
    static String answerOf(Call call) {
        try {
            return String.valueOf(call.make());
        } catch (RuntimeException e) {
            return "throws." + e.getClass().getSimpleName();
        }
    }

    void is(long want, Call call) {
        same(String.valueOf(want), answerOf(call));
    }

    void isDone(Deed deed) {
        same("done", answerOf(() -> done(deed)));
    }

    /** The very class is due: a subclass would be an exception that Java threw by itself. */
    void refuses(Class<? extends RuntimeException> want, Call call) {
        same("throws." + want.getSimpleName(), answerOf(call));
    }

    void refusesTo(Class<? extends RuntimeException> want, Deed deed) {
        refuses(want, () -> done(deed));
    }

    void same(String want, String got) {
        seen++;
        if (!want.equals(got)) {
            wrong++;
            System.out.println(test + ", " + place() + ": answered " + got + ", due is " + want + sentence);
        }
    }

    void end() {
        System.out.println(test + ": " + seen + " answers, " + wrong + " not as due");
        if (wrong != 0 || seen == 0) {
            System.exit(1);
        }
    }

    private static String done(Deed deed) {
        deed.make();
        return "done";
    }

    private static String place() {
        return StackWalker.getInstance().walk(frames -> frames
                .filter(frame -> frame.getClassName().endsWith("Test"))
                .findFirst().map(frame -> frame.getMethodName() + " line " + frame.getLineNumber()).orElse("?"));
    }
}
