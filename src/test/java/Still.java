/** An object that some calls leave behind, and calls that must leave all of it as it was. */
final class Still {
    private final Steps steps;
    private final String before;

    Still(Steps steps) {
        this.steps = steps;
        this.before = Look.behind(steps);
    }

    void bad(String call, Steps last) {
        due(call, last, "IllegalArgumentException");
    }

    void refused(String call, Steps last) {
        due(call, last, "IllegalStateException");
    }

    void fine(String call, Steps last) {
        due(call, last, "nothing");
    }

    private void due(String call, Steps last, String outcome) {
        Counted x = new Counted();
        steps.on(x);
        Check.due(call + " throws", Check.outcome(() -> last.on(x)), outcome);
        Check.due("a look behind " + call, Look.behind(steps.then(last)), before);
    }
}
