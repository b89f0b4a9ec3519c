/** Terms: '"Bad" is IllegalArgumentException ...; REFUSED ... is IllegalStateException. A refused call changes nothing.' */
public final class BadTest {
    private static final int OUT = Integer.MAX_VALUE;

    public static void main(String[] args) {
        aNumberOutOfRange();
        refused();
        inTheMidstOfARun();
        Check.end();
    }

    /** Each number of each call by itself: the one below its range, and the one above it. */
    private static void aNumberOutOfRange() {
        Check.sentence("\"Bad\" is IllegalArgumentException: a number out of range");
        // COPY 0 has the TEXT eabc and made 5 CHANGES there.
        Still still = new Still(Steps.several());
        still.bad("insert(-1, 0, 97)", x -> x.insert(-1, 0, 97));
        still.bad("insert(4, 0, 97)", x -> x.insert(4, 0, 97));
        still.bad("insert(0, -1, 97)", x -> x.insert(0, -1, 97));
        still.bad("insert(0, 5, 97)", x -> x.insert(0, 5, 97));
        still.bad("insert(0, 0, -1)", x -> x.insert(0, 0, -1));
        still.bad("insert(0, 0, 256)", x -> x.insert(0, 0, 256));
        still.bad("remove(-1, 0)", x -> x.remove(-1, 0));
        still.bad("remove(4, 0)", x -> x.remove(4, 0));
        still.bad("remove(0, -1)", x -> x.remove(0, -1));
        still.bad("remove(0, 4)", x -> x.remove(0, 4));
        still.bad("bring(-1, 0, 1)", x -> x.bring(-1, 0, 1));
        still.bad("bring(4, 0, 1)", x -> x.bring(4, 0, 1));
        still.bad("bring(0, -1, 1)", x -> x.bring(0, -1, 1));
        still.bad("bring(0, 5, 1)", x -> x.bring(0, 5, 1));
        still.bad("bring(0, 0, -1)", x -> x.bring(0, 0, -1));
        still.bad("bring(0, 0, 4)", x -> x.bring(0, 0, 4));
        still.bad("merge(-1, 0)", x -> x.merge(-1, 0));
        still.bad("merge(4, 0)", x -> x.merge(4, 0));
        still.bad("merge(0, -1)", x -> x.merge(0, -1));
        still.bad("merge(0, 4)", x -> x.merge(0, 4));
        still.bad("length(-1)", x -> x.length(-1));
        still.bad("length(4)", x -> x.length(4));
        still.bad("letter(0, -1)", x -> x.letter(0, -1));
        still.bad("name(0, -1)", x -> x.name(0, -1));
        still.bad("has(0, -1)", x -> x.has(0, -1));
        still.bad("has(0, 4)", x -> x.has(0, 4));
        still.bad("all out of range", x -> x.insert(OUT, OUT, OUT));
        still.bad("all out of range", x -> x.bring(OUT, OUT, OUT));
    }

    private static void refused() {
        Check.sentence("REFUSED (a COPY's 401st CHANGE, too) is IllegalStateException. A refused call changes nothing.");
        Still several = new Still(Steps.several());
        several.refused("bring(0, 3, 1), which lacks 2's", x -> x.bring(0, 3, 1));
        several.refused("bring(0, 4, 2), which lacks 0's", x -> x.bring(0, 4, 2));
        several.refused("bring(3, 0, 0), which lacks 1's", x -> x.bring(3, 0, 0));
        several.refused("bring(1, 1, 2), which lacks all", x -> x.bring(1, 1, 2));
        Still full = new Still(Steps.letters(1, 400).then(x -> x.merge(1, 0)).then(x -> x.insert(0, 7, 'x')));
        full.refused("insert(1, 0, 97)", x -> x.insert(1, 0, 97));
        full.refused("remove(1, 0)", x -> x.remove(1, 0));
        full.refused("bring(0, 0, 2)", x -> x.bring(0, 0, 2));
    }

    /** Bad and refused calls between all others: the others' answers are the same as without them. */
    private static void inTheMidstOfARun() {
        Check.sentence("A refused call changes nothing.");
        Steps plain = x -> run(x, false);
        Steps disturbed = x -> run(x, true);
        Check.due("a look behind a run with bad and refused calls", Look.behind(disturbed), Look.behind(plain));
    }

    private static void run(Counted x, boolean disturb) {
        for (int round = 0; round < 4; round++) {
            for (int c = 0; c < 4; c++) {
                int to = (c + 1) % 4;
                x.insert(c, round / 2, 'a' + 4 * round + c);
                disturb(x, disturb, c, to);
                if (round % 2 == 1) {
                    x.remove(c, 0);
                }
                disturb(x, disturb, c, to);
                if (round != c) {
                    x.merge(c, to);
                }
            }
        }
    }

    private static void disturb(Counted x, boolean disturb, int c, int to) {
        if (disturb) {
            int length = x.length(c);
            int made = x.has(c, c);
            Check.bad("insert too far", () -> x.insert(c, length + 1, 'z'));
            Check.bad("insert of no byte", () -> x.insert(c, 0, 256));
            Check.bad("remove too far", () -> x.remove(c, length));
            Check.bad("bring of none", () -> x.bring(c, made, to));
            Check.bad("bring to itself", () -> x.bring(c, 0, c));
            if (x.has(to, c) + 1 < made) {
                Check.refused("bring too early", () -> x.bring(c, made - 1, to));
            }
        }
    }
}
