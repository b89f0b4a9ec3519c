/** Terms: 'Both are CHANGES; a COPY's own are numbered from 0 on, at most 400 (one more: IllegalStateException).' */
public final class NumbersTest {
    public static void main(String[] args) {
        bothAreNumbered();
        eachCopyCountsItsOwn();
        fourHundredAndOneMore();
        fourHundredLettersAndTakingsAway();
        fourHundredAndAnEmptyText();
        whatComesDoesNotCount();
        aFullCopyTakesWhatComes();
        badGoesFirst();
        Check.end();
    }

    private static void bothAreNumbered() {
        Check.sentence("Both are CHANGES; a COPY's own are numbered from 0 on");
        Counted x = new Counted();
        Check.due("insert", x.insert(1, 0, 'a'), 0);
        Check.due("remove", x.remove(1, 0), 1);
        Check.due("insert", x.insert(1, 0, 'b'), 2);
        Check.due("insert", x.insert(1, 1, 'c'), 3);
        Check.due("remove", x.remove(1, 1), 4);
        Check.due("remove", x.remove(1, 0), 5);
        Check.due("has(1, 1)", x.has(1, 1), 6);
    }

    private static void eachCopyCountsItsOwn() {
        Check.sentence("a COPY's own are numbered from 0 on");
        Counted x = new Counted();
        Check.write(x, 0, "abc");
        for (int c = 1; c < 4; c++) {
            x.merge(c - 1, c);
            Check.due("first CHANGE of COPY " + c, x.remove(c, 0), 0);
            Check.due("second CHANGE of COPY " + c, x.insert(c, 0, 'x'), 1);
        }
        Check.due("next CHANGE of COPY 0", x.insert(0, 0, 'y'), 3);
    }

    private static void fourHundredAndOneMore() {
        Check.sentence("at most 400 (one more: IllegalStateException)");
        for (int c = 0; c < 4; c++) {
            int copy = c;
            Counted x = new Counted();
            Steps.letters(c, 398).on(x);
            Check.due("CHANGE 399 of COPY " + c, x.insert(c, 0, 'x'), 398);
            Check.due("CHANGE 400 of COPY " + c, x.insert(c, 0, 'y'), 399);
            Check.refused("CHANGE 401 of COPY " + c, () -> x.insert(copy, 0, 'z'));
            Check.refused("CHANGE 401 of COPY " + c + " by remove", () -> x.remove(copy, 0));
            Check.refused("CHANGE 401 of COPY " + c + " again", () -> x.insert(copy, 400, 'z'));
            Check.due("length(" + c + ")", x.length(c), 400);
            Check.due("has(" + c + ", " + c + ")", x.has(c, c), 400);
            Check.due("letter(" + c + ", 0)", x.letter(c, 0), 'y');
            Check.due("name(" + c + ", 0)", x.name(c, 0), 4 * 400 + c);
        }
        Still full = new Still(Steps.letters(2, 400));
        full.refused("insert(2, 0, 0)", x -> x.insert(2, 0, 0));
        full.refused("insert(2, 400, 255)", x -> x.insert(2, 400, 255));
        full.refused("remove(2, 0)", x -> x.remove(2, 0));
        full.refused("remove(2, 399)", x -> x.remove(2, 399));
    }

    private static void fourHundredLettersAndTakingsAway() {
        Check.sentence("Both are CHANGES; ... at most 400");
        Steps almost = x -> {
            for (int k = 0; k < 398; k++) {
                x.insert(0, 0, 97);
            }
            x.remove(0, 397);
        };
        Counted x = new Counted();
        almost.on(x);
        Check.due("CHANGE 400 by remove", x.remove(0, 0), 399);
        Check.refused("CHANGE 401 by remove", () -> x.remove(0, 0));
        Check.refused("CHANGE 401 by insert", () -> x.insert(0, 0, 97));
        Check.due("length(0)", x.length(0), 396);
        Check.due("has(0, 0)", x.has(0, 0), 400);
        Still full = new Still(almost.then(y -> y.remove(0, 0)));
        full.refused("remove(0, 395)", y -> y.remove(0, 395));
        full.refused("insert(0, 396, 97)", y -> y.insert(0, 396, 97));
    }

    private static void fourHundredAndAnEmptyText() {
        Check.sentence("Both are CHANGES; ... at most 400");
        Steps full = x -> {
            for (int k = 0; k < 200; k++) {
                Check.due("insert", x.insert(3, 0, k), 2 * k);
                Check.due("remove", x.remove(3, 0), 2 * k + 1);
            }
        };
        Still still = new Still(full);
        still.refused("insert(3, 0, 97)", x -> x.insert(3, 0, 97));
        still.bad("remove(3, 0) of an empty TEXT", x -> x.remove(3, 0));
    }

    private static void whatComesDoesNotCount() {
        Check.sentence("a COPY's own are numbered from 0 on, at most 400");
        Counted x = new Counted();
        Steps.letters(0, 400).on(x);
        Check.due("merge(0, 1)", x.merge(0, 1), 400);
        for (int k = 0; k < 100; k++) {
            Check.due("insert into COPY 1", x.insert(1, 400 + k, 'x'), k);
        }
        Check.due("name(1, 499)", x.name(1, 499), 4 * 500 + 1);
        Check.due("has(1, 1)", x.has(1, 1), 100);
    }

    private static void aFullCopyTakesWhatComes() {
        Check.sentence("a COPY's own are numbered from 0 on, at most 400");
        Counted x = new Counted();
        Steps.letters(0, 400).on(x);
        Check.write(x, 1, "abc");
        x.remove(1, 0);
        Check.fine("bring(1, 0, 0)", () -> x.bring(1, 0, 0));
        Check.due("length(0)", x.length(0), 401);
        Check.due("merge(1, 0)", x.merge(1, 0), 3);
        Check.due("length(0)", x.length(0), 402);
        Check.due("has(0, 1)", x.has(0, 1), 4);
        Check.refused("insert(0, 402, 97)", () -> x.insert(0, 402, 97));
        Check.fine("bring(0, 0, 2)", () -> x.bring(0, 0, 2));
        Check.due("merge(0, 3)", x.merge(0, 3), 404);
        Check.due("next CHANGE of COPY 3", x.remove(3, 401), 0);
    }

    /** The document does not say which goes first: the README does. */
    private static void badGoesFirst() {
        Check.sentence("\"Bad\" is IllegalArgumentException: a number out of range");
        Still full = new Still(Steps.letters(0, 400));
        full.bad("insert(0, -1, 97)", x -> x.insert(0, -1, 97));
        full.bad("insert(0, 401, 97)", x -> x.insert(0, 401, 97));
        full.bad("insert(0, 0, -1)", x -> x.insert(0, 0, -1));
        full.bad("insert(0, 0, 256)", x -> x.insert(0, 0, 256));
        full.bad("remove(0, -1)", x -> x.remove(0, -1));
        full.bad("remove(0, 400)", x -> x.remove(0, 400));
    }
}
