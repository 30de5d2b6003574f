/** Tries calls that are changes: each records a state, and undo brings everything back. */
final class Change {
    private Change() {
    }

    /** The call has to answer so, and to be a change; behind it the object is as it was before it. */
    static void by(String name, DomeLamps x, Unchanged.Call call, int want) {
        String before = Answers.ofDome(x);
        int had = x.count(14);
        Due.is(name, call.on(x), want);
        Due.is("count(14) behind " + name, x.count(14), Math.min(6, had + 1));
        Due.is("undo() of " + name, x.undo(), Math.min(5, had));
        Due.same("undo() of " + name, Answers.ofDome(x), before);
    }
}
