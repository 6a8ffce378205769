/** A sentence of the document that names a boundary case, held against the program. */
public final class Edge {
    private Edge() {
    }

    /** The call, behind the run, answers so. */
    public static void due(String sentence, Story story, String call, int want) {
        Talk.due(sentence + ": behind " + story + ": " + call, new Story.Call(call).on(story.play()), want);
    }

    /**
     * The call, behind the run, answers so and all stays as it was: what can be asked, also when one
     * act is undone then, and two are.
     */
    public static void refused(String sentence, Story story, String call, int want) {
        due(sentence, story, call, want);
        Portrait.same(sentence, story.tried(call), story);
        Portrait.same(sentence, story.tried(call, "undo()"), story.tried("undo()"));
        Portrait.same(sentence, story.tried(call, "undo()", "undo()"), story.tried("undo()", "undo()"));
    }

    /** The call, behind the run, answers so and is then undone: all is as ahead of it. */
    public static void undone(String sentence, Story story, String call, int want) {
        due(sentence, story, call, want);
        Portrait.same(sentence + ", undone", story.tried(call, "undo()"), story);
    }

    /** Each of these, "call = answer", asked of one object behind the run. */
    public static void all(String sentence, Story story, String... asked) {
        RaidMat x = story.play();
        for (String one : asked) {
            int sign = one.lastIndexOf('=');
            int want = Integer.parseInt(one.substring(sign + 1).trim());
            Story.Call call = new Story.Call(one.substring(0, sign).trim());
            Talk.due(sentence + ": behind " + story + ": " + call, call.on(x), want);
        }
    }

    public static String times(String text, int n) {
        return text.repeat(n);
    }
}
