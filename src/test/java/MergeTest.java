/** Promise 5: merge. */
public final class MergeTest {
    public static void main(String[] args) {
        bringsAllThatIsNew();
        bringsWhatOthersMade();
        inAnOrderInWhichTheyCan();
        answersHowManyAreNew();
        nothingNew();
        fourHundredAndMore();
        oneWayAlone();
        withItself();
        neverRefused();
        Check.end();
    }

    private static void bringsAllThatIsNew() {
        Check.sentence("All CHANGES that COPY from has come to COPY to");
        Counted x = new Counted();
        Check.write(x, 0, "abc");
        x.remove(0, 1);
        x.merge(0, 1);
        Check.textDue(x, 1, "ac");
        Check.write(x, 0, "d");
        x.merge(0, 1);
        Check.textDue(x, 1, "acd");
        Check.due("has(1, 0)", x.has(1, 0), 5);
        Check.textDue(x, 0, "acd");
    }

    private static void bringsWhatOthersMade() {
        Check.sentence("All CHANGES that COPY from has come to COPY to");
        Counted x = new Counted();
        x.insert(0, 0, 'a');
        x.merge(0, 1);
        x.insert(1, 1, 'b');
        x.merge(1, 2);
        x.insert(2, 2, 'c');
        x.insert(0, 0, 'z');
        Check.due("merge(2, 3)", x.merge(2, 3), 3);
        Check.textDue(x, 3, "abc");
        Check.due("has(3, 0) without the z", x.has(3, 0), 1);
        Check.due("merge(0, 3)", x.merge(0, 3), 1);
        Check.textDue(x, 3, "zabc");
        x.bring(0, 1, 1);
        Check.due("merge(3, 1) of what is lacking alone", x.merge(3, 1), 1);
        Check.textDue(x, 1, "zabc");
    }

    private static void inAnOrderInWhichTheyCan() {
        Check.sentence("in an order in which they can");
        // Neither COPY by COPY nor in the order in which they came to COPY 0 alone would do: 3's
        // need 2's, and 2's second needs 3's first.
        Counted x = new Counted();
        x.insert(2, 0, 'a');
        x.merge(2, 3);
        x.insert(3, 1, 'b');
        x.merge(3, 2);
        x.insert(2, 2, 'c');
        x.merge(2, 3);
        x.remove(3, 0);
        x.insert(3, 2, 'd');
        x.merge(3, 0);
        x.insert(0, 0, 'e');
        Check.due("merge(0, 1)", x.merge(0, 1), 6);
        Check.textDue(x, 1, "ebcd");
        Check.due("has(1, 2)", x.has(1, 2), 2);
        Check.due("has(1, 3)", x.has(1, 3), 3);
    }

    private static void answersHowManyAreNew() {
        Check.sentence("Answers how many are new there.");
        Counted x = new Counted();
        Check.write(x, 0, "abc");
        x.remove(0, 1);
        Check.due("merge(0, 1) of three LETTERS and a taking away", x.merge(0, 1), 4);
        x.insert(0, 0, 'd');
        Check.due("merge(0, 1) of one more", x.merge(0, 1), 1);
        x.bring(0, 0, 2);
        x.bring(0, 1, 2);
        Check.due("merge(1, 2) where two are there", x.merge(1, 2), 3);
        x.insert(2, 0, 'e');
        x.remove(1, 0);
        Check.due("merge(2, 1) of one that 1 lacks", x.merge(2, 1), 1);
        Check.due("merge(1, 2) of one that 2 lacks", x.merge(1, 2), 1);
        Check.due("merge(1, 3) of all", x.merge(1, 3), 7);
    }

    private static void nothingNew() {
        Check.sentence("Answers how many are new there.");
        Steps done = x -> {
            Check.write(x, 0, "ab");
            x.remove(0, 0);
            x.merge(0, 1);
            x.insert(1, 0, 'c');
        };
        Still still = new Still(done);
        still.fine("merge(0, 1) again", x -> Check.due("merge(0, 1) again", x.merge(0, 1), 0));
        still.fine("merge(2, 0) of an empty COPY", x -> Check.due("merge(2, 0)", x.merge(2, 0), 0));
        still.fine("merge(2, 3) of two empty COPIES", x -> Check.due("merge(2, 3)", x.merge(2, 3), 0));
    }

    private static void fourHundredAndMore() {
        Check.sentence("All CHANGES that COPY from has come to COPY to");
        Counted x = new Counted();
        Steps.letters(0, 400).on(x);
        Steps.letters(1, 50).on(x);
        Check.due("merge(1, 0)", x.merge(1, 0), 50);
        Check.due("merge(0, 2)", x.merge(0, 2), 450);
        Check.due("length(2)", x.length(2), 450);
        Check.due("has(2, 0)", x.has(2, 0), 400);
        Check.due("has(2, 1)", x.has(2, 1), 50);
        Check.due("name(2, 0)", x.name(2, 0), 4 + 1);
        Check.due("name(2, 50)", x.name(2, 50), 4);
        Check.due("name(2, 449)", x.name(2, 449), 4 * 400);
        Check.due("merge(0, 1)", x.merge(0, 1), 400);
    }

    private static void oneWayAlone() {
        Check.sentence("All CHANGES that COPY from has come to COPY to");
        Steps several = Steps.several();
        Steps merged = several.then(x -> x.merge(3, 2));
        for (int c = 0; c < 4; c++) {
            boolean same = Look.copy(merged, c).equals(Look.copy(several, c));
            Check.due("merge(3, 2) leaves COPY " + c, "" + same, "" + (c != 2));
        }
    }

    /** The document calls only a bring to the same COPY bad. */
    private static void withItself() {
        Check.sentence("Answers how many are new there.");
        Still still = new Still(Steps.several());
        for (int c = 0; c < 4; c++) {
            int copy = c;
            still.fine("merge(" + c + ", " + c + ")",
                    x -> Check.due("merge(" + copy + ", " + copy + ")", x.merge(copy, copy), 0));
        }
    }

    private static void neverRefused() {
        Check.sentence("in an order in which they can");
        for (int from = 0; from < 4; from++) {
            for (int to = 0; to < 4; to++) {
                int a = from;
                int b = to;
                Counted x = new Counted();
                Steps.several().on(x);
                Check.fine("merge(" + a + ", " + b + ")", () -> x.merge(a, b));
                for (int of = 0; of < 4; of++) {
                    boolean all = x.has(b, of) >= x.has(a, of);
                    Check.due("merge(" + a + ", " + b + ") brings all of COPY " + of, "" + all, "true");
                }
            }
        }
    }
}
