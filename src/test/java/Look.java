/**
 * What can be told of the object that some calls leave behind: all that its COPIES show, and what
 * further calls would do, at the ends of each TEXT and with the first few CHANGES and the last. It
 * makes the calls again on new objects, so that no object is used for more than 512 calls.
 */
final class Look {
    private static final int FEW = 6;

    private interface Further {
        int on(Counted x);
    }

    private Look() {
    }

    static String behind(Steps steps) {
        StringBuilder told = new StringBuilder();
        for (int c = 0; c < 4; c++) {
            told.append("COPY ").append(c).append(": ").append(copy(steps, c)).append('\n');
        }
        for (int c = 0; c < 4; c++) {
            changes(steps, c, told);
        }
        for (int from = 0; from < 4; from++) {
            for (int to = 0; to < 4; to++) {
                comings(steps, from, to, told);
            }
        }
        return told.toString();
    }

    /** What a COPY shows: LETTERS with their NAMES, and how many CHANGES of each it has. */
    static String copy(Steps steps, int c) {
        Counted x = made(steps);
        int length = x.length(c);
        StringBuilder told = new StringBuilder().append(length);
        for (int at = 0; at < length; at++) {
            x = x.callsLeft() < 2 ? made(steps) : x;
            told.append(' ').append(x.letter(c, at)).append('/').append(x.name(c, at));
        }
        x = x.callsLeft() < 4 ? made(steps) : x;
        for (int of = 0; of < 4; of++) {
            told.append(" of").append(of).append('=').append(x.has(c, of));
        }
        return told.toString();
    }

    /** What the COPY's next CHANGE would be. */
    private static void changes(Steps steps, int c, StringBuilder told) {
        int length = made(steps).length(c);
        further(steps, "insert in front", x -> x.insert(c, 0, '!'), c, told);
        further(steps, "insert behind the end", x -> x.insert(c, length, '!'), c, told);
        further(steps, "remove in front", x -> x.remove(c, 0), c, told);
    }

    /** What would come from one COPY to another. */
    private static void comings(Steps steps, int from, int to, StringBuilder told) {
        int last = made(steps).has(from, from) - 1;
        for (int k = 0; k <= last; k++) {
            if (k < FEW || k == last) {
                int change = k;
                further(steps, "bring(" + from + ", " + k + ", " + to + ")", x -> {
                    x.bring(from, change, to);
                    return 0;
                }, to, told);
            }
        }
        further(steps, "merge(" + from + ", " + to + ")", x -> x.merge(from, to), to, told);
    }

    private static void further(Steps steps, String call, Further last, int c, StringBuilder told) {
        Counted x = made(steps);
        told.append(call).append(" in ").append(c).append(": ");
        told.append(Check.outcome(() -> told.append(last.on(x)).append(' ')));
        told.append(": ").append(copy(steps.then(last::on), c)).append('\n');
    }

    private static Counted made(Steps steps) {
        Counted x = new Counted();
        steps.on(x);
        return x;
    }
}
