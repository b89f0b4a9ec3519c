/** Terms: 'A CHANGE comes to another COPY: if that has all CHANGES that the one who made it had then, ...' */
public final class ComesTest {
    public static void main(String[] args) {
        aFirstChangeNeedsNothing();
        itHasItToo();
        lacksOneOfTheMakersOwn();
        lacksOneOfAThird();
        lacksATakingAwayAlone();
        lacksWhatHasNothingToDoWithIt();
        whatTheMakerGotLaterIsNotNeeded();
        mayHaveMoreThanNeeded();
        thereAlready();
        refusedOnesCanComeLater();
        Check.end();
    }

    private static void aFirstChangeNeedsNothing() {
        Check.sentence("if that has all CHANGES that the one who made it had then, it has it, too");
        for (int from = 0; from < 4; from++) {
            for (int to = 0; to < 4; to++) {
                if (from != to) {
                    int a = from;
                    int b = to;
                    Counted x = new Counted();
                    x.insert(a, 0, 'a');
                    Check.fine("bring(" + a + ", 0, " + b + ")", () -> x.bring(a, 0, b));
                    Check.textDue(x, b, "a");
                }
            }
        }
    }

    private static void itHasItToo() {
        Check.sentence("it has it, too");
        Counted x = new Counted();
        Check.write(x, 0, "ab");
        x.remove(0, 0);
        for (int k = 0; k < 3; k++) {
            x.bring(0, k, 1);
            Check.due("has(1, 0) behind CHANGE " + k, x.has(1, 0), k + 1);
        }
        Check.textDue(x, 1, "b");
        Check.due("name(1, 0)", x.name(1, 0), 4 * 2);
        Check.textDue(x, 0, "b");
        Check.due("has(0, 0)", x.has(0, 0), 3);
        Check.due("has(2, 0)", x.has(2, 0), 0);
        Check.due("has(1, 1)", x.has(1, 1), 0);
    }

    private static void lacksOneOfTheMakersOwn() {
        Check.sentence("else it's REFUSED");
        Steps written = x -> Check.write(x, 0, "abc");
        Still none = new Still(written);
        none.refused("bring(0, 1, 1)", x -> x.bring(0, 1, 1));
        none.refused("bring(0, 2, 1)", x -> x.bring(0, 2, 1));
        Steps first = written.then(x -> x.bring(0, 0, 1));
        new Still(first).refused("bring(0, 2, 1)", x -> x.bring(0, 2, 1));
        Counted x = new Counted();
        first.on(x);
        Check.fine("bring(0, 1, 1)", () -> x.bring(0, 1, 1));
        Check.fine("bring(0, 2, 1)", () -> x.bring(0, 2, 1));
        Check.textDue(x, 1, "abc");
    }

    private static void lacksOneOfAThird() {
        Check.sentence("if that has all CHANGES that the one who made it had then ...; else it's REFUSED");
        // Each COPY in turn is the third whose last CHANGE is lacking.
        for (int third = 0; third < 4; third++) {
            int a = third;
            int maker = (third + 1) % 4;
            int to = (third + 2) % 4;
            Steps lacking = x -> {
                Check.write(x, a, "ab");
                x.merge(a, maker);
                x.insert(maker, 2, 'c');
                x.bring(a, 0, to);
            };
            new Still(lacking).refused("bring(" + maker + ", 0, " + to + ")", x -> x.bring(maker, 0, to));
            Counted x = new Counted();
            lacking.on(x);
            x.bring(a, 1, to);
            Check.fine("bring(" + maker + ", 0, " + to + ")", () -> x.bring(maker, 0, to));
            Check.textDue(x, to, "abc");
        }
    }

    private static void lacksATakingAwayAlone() {
        Check.sentence("if that has all CHANGES that the one who made it had then ...; else it's REFUSED");
        Steps lacking = x -> {
            Check.write(x, 0, "ab");
            x.merge(0, 2);
            x.remove(0, 1);
            x.merge(0, 1);
            x.insert(1, 0, 'c');
        };
        new Still(lacking).refused("bring(1, 0, 2)", x -> x.bring(1, 0, 2));
        Counted x = new Counted();
        lacking.on(x);
        x.bring(0, 2, 2);
        Check.fine("bring(1, 0, 2)", () -> x.bring(1, 0, 2));
        Check.textDue(x, 2, "ca");
    }

    private static void lacksWhatHasNothingToDoWithIt() {
        Check.sentence("all CHANGES that the one who made it had then");
        // The maker's LETTER stands behind the START, and its taking away is of its own LETTER; but
        // it had COPY 3's.
        Steps lacking = x -> {
            x.insert(3, 0, 'z');
            x.merge(3, 1);
            x.insert(1, 0, 'a');
            x.remove(1, 0);
        };
        Still still = new Still(lacking);
        still.refused("bring(1, 0, 2)", x -> x.bring(1, 0, 2));
        still.refused("bring(1, 1, 2)", x -> x.bring(1, 1, 2));
        still.fine("bring(3, 0, 1) again", x -> x.bring(3, 0, 1));
    }

    private static void whatTheMakerGotLaterIsNotNeeded() {
        Check.sentence("that the one who made it had then");
        Counted x = new Counted();
        x.insert(1, 0, 'b');
        x.insert(3, 0, 'z');
        x.merge(3, 1);
        x.insert(1, 2, 'c');
        Check.fine("bring(1, 0, 2)", () -> x.bring(1, 0, 2));
        Check.textDue(x, 2, "b");
        Check.due("has(2, 3)", x.has(2, 3), 0);
        Check.refused("bring(1, 1, 2)", () -> x.bring(1, 1, 2));
        x.bring(3, 0, 2);
        Check.fine("bring(1, 1, 2)", () -> x.bring(1, 1, 2));
        Check.textDue(x, 2, "zbc");
    }

    private static void mayHaveMoreThanNeeded() {
        Check.sentence("if that has all CHANGES that the one who made it had then, it has it, too");
        Counted x = new Counted();
        Check.write(x, 0, "a");
        x.merge(0, 1);
        x.insert(1, 1, 'b');
        Check.write(x, 0, "cd");
        Check.write(x, 2, "xy");
        x.merge(2, 0);
        Check.fine("bring(1, 0, 0)", () -> x.bring(1, 0, 0));
        // a's followers: b (2, 1), c (2, 0).
        Check.textDue(x, 0, "xyabcd");
    }

    private static void thereAlready() {
        Check.sentence("if it's there already nothing happens");
        Steps shared = x -> {
            Check.write(x, 0, "ab");
            x.remove(0, 0);
            x.bring(0, 0, 1);
            x.bring(0, 1, 1);
            x.insert(1, 1, 'c');
            x.bring(0, 2, 1);
            x.bring(1, 0, 0);
            x.merge(1, 3);
            x.remove(3, 0);
        };
        Still still = new Still(shared);
        for (int k = 0; k < 3; k++) {
            int again = k;
            still.fine("bring(0, " + k + ", 1) of what a bring brought", x -> x.bring(0, again, 1));
            still.fine("bring(0, " + k + ", 3) of what a merge brought", x -> x.bring(0, again, 3));
        }
        still.fine("bring(1, 0, 0) again", x -> x.bring(1, 0, 0));
        still.fine("bring(1, 0, 3)", x -> x.bring(1, 0, 3));
        still.fine("merge(1, 3) again", x -> x.merge(1, 3));
    }

    private static void refusedOnesCanComeLater() {
        Check.sentence("else it's REFUSED");
        Counted x = new Counted();
        Check.write(x, 0, "abcd");
        for (int k = 3; k >= 1; k--) {
            int early = k;
            Check.refused("bring(0, " + k + ", 1) too early", () -> x.bring(0, early, 1));
        }
        for (int k = 0; k < 4; k++) {
            int due = k;
            Check.fine("bring(0, " + k + ", 1)", () -> x.bring(0, due, 1));
        }
        Check.textDue(x, 1, "abcd");
    }
}
