/** Promise 2: insert. */
public final class InsertTest {
    public static void main(String[] args) {
        putsAtTheNumber();
        everyPlaceOfAText();
        placesOfAnEmptyText();
        placesOutsideTheText();
        placesWhereSomeWereTakenAway();
        answersTheNumber();
        onlyThatCopy();
        Check.end();
    }

    private static void putsAtTheNumber() {
        Check.sentence("COPY c puts a LETTER into its TEXT, so that it's number at (0 .. length).");
        Counted x = new Counted();
        x.insert(2, 0, 'b');
        x.insert(2, 0, 'a');
        x.insert(2, 2, 'd');
        x.insert(2, 2, 'c');
        Check.textDue(x, 2, "abcd");
        x.remove(2, 1);
        x.insert(2, 1, 'B');
        Check.textDue(x, 2, "aBcd");
    }

    private static void everyPlaceOfAText() {
        Check.sentence("so that it's number at (0 .. length)");
        for (int at = 0; at <= 5; at++) {
            Counted x = new Counted();
            Check.write(x, 1, "abcde");
            x.insert(1, at, '!');
            Check.textDue(x, 1, "abcde".substring(0, at) + "!" + "abcde".substring(at));
            Check.due("name(1, " + at + ")", x.name(1, at), 4 * 6 + 1);
        }
    }

    private static void placesOfAnEmptyText() {
        Check.sentence("so that it's number at (0 .. length)");
        Still empty = new Still(Steps.none());
        empty.bad("insert(0, -1, 97)", x -> x.insert(0, -1, 97));
        empty.bad("insert(0, 1, 97)", x -> x.insert(0, 1, 97));
        Check.due("insert(0, 0, 97)", new Counted().insert(0, 0, 97), 0);
    }

    private static void placesOutsideTheText() {
        Check.sentence("so that it's number at (0 .. length)");
        Steps several = Steps.several();
        Still still = new Still(several);
        for (int c = 0; c < 4; c++) {
            int copy = c;
            Counted x = new Counted();
            several.on(x);
            int length = x.length(c);
            int[] outside = {-1, length + 1, length + 2, 400, 512, Integer.MIN_VALUE, Integer.MAX_VALUE};
            for (int at : outside) {
                still.bad("insert(" + c + ", " + at + ", 97)", y -> y.insert(copy, at, 97));
            }
            Check.fine("insert(" + c + ", " + length + ", 97)", () -> x.insert(copy, length, 97));
            Check.due("letter(" + c + ", " + length + ")", x.letter(c, length), 97);
            Check.fine("insert(" + c + ", 0, 98)", () -> x.insert(copy, 0, 98));
            Check.due("letter(" + c + ", 0)", x.letter(c, 0), 98);
        }
    }

    private static void placesWhereSomeWereTakenAway() {
        Check.sentence("so that it's number at (0 .. length)");
        Steps shorter = x -> {
            Check.write(x, 0, "abc");
            x.remove(0, 2);
            x.remove(0, 0);
        };
        Still still = new Still(shorter);
        still.bad("insert(0, 2, 97)", x -> x.insert(0, 2, 97));
        still.bad("insert(0, 3, 97)", x -> x.insert(0, 3, 97));
        Counted x = new Counted();
        shorter.on(x);
        Check.due("insert(0, 1, 'x')", x.insert(0, 1, 'x'), 5);
        Check.due("insert(0, 0, 'y')", x.insert(0, 0, 'y'), 6);
        Check.textDue(x, 0, "ybx");
    }

    private static void answersTheNumber() {
        Check.sentence("Answers the CHANGE's number.");
        Counted x = new Counted();
        Check.due("insert", x.insert(0, 0, 'a'), 0);
        Check.due("insert", x.insert(0, 0, 'b'), 1);
        x.remove(0, 0);
        Check.due("insert behind a remove", x.insert(0, 0, 'c'), 3);
        Check.bad("insert(0, 3, 97)", () -> x.insert(0, 3, 97));
        Check.due("insert behind a bad one", x.insert(0, 0, 'd'), 4);
        Check.due("insert into another COPY", x.insert(1, 0, 'e'), 0);
        x.merge(0, 1);
        Check.due("insert behind a merge", x.insert(1, 0, 'f'), 1);
        x.bring(1, 0, 2);
        Check.due("insert behind a bring", x.insert(2, 0, 'g'), 0);
    }

    private static void onlyThatCopy() {
        Check.sentence("COPY c puts a LETTER into its TEXT");
        Steps several = Steps.several();
        for (int c = 0; c < 4; c++) {
            int copy = c;
            Steps more = several.then(x -> x.insert(copy, 0, '!'));
            for (int other = 0; other < 4; other++) {
                boolean same = Look.copy(more, other).equals(Look.copy(several, other));
                Check.due("insert into COPY " + c + " leaves COPY " + other, "" + same, "" + (other != c));
            }
        }
    }
}
