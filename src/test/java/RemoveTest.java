/** Promise 3: remove. */
public final class RemoveTest {
    public static void main(String[] args) {
        everyPlaceOfAText();
        placesOfAnEmptyText();
        placesOutsideTheText();
        placesOfATextEmptyAgain();
        answersTheNumber();
        onlyThatCopy();
        Check.end();
    }

    private static void everyPlaceOfAText() {
        Check.sentence("COPY c takes LETTER at of its TEXT away.");
        for (int at = 0; at < 5; at++) {
            Counted x = new Counted();
            Check.write(x, 1, "abcde");
            x.remove(1, at);
            Check.textDue(x, 1, "abcde".substring(0, at) + "abcde".substring(at + 1));
            x.insert(1, at, '!');
            x.remove(1, at);
            Check.textDue(x, 1, "abcde".substring(0, at) + "abcde".substring(at + 1));
        }
    }

    private static void placesOfAnEmptyText() {
        Check.sentence("COPY c takes LETTER at of its TEXT away.");
        Still empty = new Still(Steps.none());
        for (int c = 0; c < 4; c++) {
            int copy = c;
            empty.bad("remove(" + c + ", 0)", x -> x.remove(copy, 0));
            empty.bad("remove(" + c + ", -1)", x -> x.remove(copy, -1));
        }
        Still other = new Still(Steps.letters(0, 2));
        other.bad("remove(1, 0) of an empty TEXT beside another", x -> x.remove(1, 0));
    }

    private static void placesOutsideTheText() {
        Check.sentence("COPY c takes LETTER at of its TEXT away.");
        Steps several = Steps.several();
        Still still = new Still(several);
        for (int c = 0; c < 4; c++) {
            int copy = c;
            Counted x = new Counted();
            several.on(x);
            int length = x.length(c);
            int[] outside = {-1, length, length + 1, 400, 512, Integer.MIN_VALUE, Integer.MAX_VALUE};
            for (int at : outside) {
                still.bad("remove(" + c + ", " + at + ")", y -> y.remove(copy, at));
            }
            Check.fine("remove(" + c + ", " + (length - 1) + ")", () -> x.remove(copy, length - 1));
            Check.fine("remove(" + c + ", 0)", () -> x.remove(copy, 0));
            Check.due("length(" + c + ")", x.length(c), length - 2);
        }
    }

    private static void placesOfATextEmptyAgain() {
        Check.sentence("COPY c takes LETTER at of its TEXT away.");
        Still again = new Still(x -> {
            x.insert(0, 0, 'a');
            x.remove(0, 0);
        });
        again.bad("remove(0, 0)", x -> x.remove(0, 0));
        again.bad("remove(0, 1)", x -> x.remove(0, 1));
        again.bad("remove(0, -1)", x -> x.remove(0, -1));
    }

    private static void answersTheNumber() {
        Check.sentence("Answers the CHANGE's number.");
        Counted x = new Counted();
        Check.write(x, 0, "abc");
        Check.due("remove", x.remove(0, 1), 3);
        Check.bad("remove(0, 2)", () -> x.remove(0, 2));
        Check.due("remove behind a bad one", x.remove(0, 1), 4);
        x.insert(0, 0, 'd');
        Check.due("remove behind an insert", x.remove(0, 0), 6);
        x.merge(0, 1);
        Check.due("a first remove of what came", x.remove(1, 0), 0);
        x.merge(1, 0);
        Check.bad("remove(0, 0) of what another took away", () -> x.remove(0, 0));
    }

    private static void onlyThatCopy() {
        Check.sentence("COPY c takes LETTER at of its TEXT away.");
        Steps several = Steps.several();
        for (int c = 0; c < 4; c++) {
            int copy = c;
            Steps more = several.then(x -> x.remove(copy, 0));
            for (int other = 0; other < 4; other++) {
                boolean same = Look.copy(more, other).equals(Look.copy(several, other));
                Check.due("remove from COPY " + c + " leaves COPY " + other, "" + same, "" + (other != c));
            }
        }
    }
}
