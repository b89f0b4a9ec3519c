/** Promise 9: has. */
public final class HasTest {
    public static void main(String[] args) {
        itself();
        anotherOne();
        whatAThirdBrought();
        refusedAndBadOnesDoNotCount();
        upToFourHundred();
        changesNothing();
        Check.end();
    }

    private static void itself() {
        Check.sentence("How many CHANGES of a COPY another one (or itself) has.");
        for (int c = 0; c < 4; c++) {
            Counted x = new Counted();
            Check.due("has(" + c + ", " + c + ")", x.has(c, c), 0);
            x.insert(c, 0, 'a');
            Check.due("has(" + c + ", " + c + ") of one LETTER", x.has(c, c), 1);
            x.remove(c, 0);
            Check.due("has(" + c + ", " + c + ") of a taking away, too", x.has(c, c), 2);
            x.insert((c + 1) % 4, 0, 'b');
            x.merge((c + 1) % 4, c);
            Check.due("has(" + c + ", " + c + ") of its own alone", x.has(c, c), 2);
        }
    }

    private static void anotherOne() {
        Check.sentence("How many CHANGES of a COPY another one (or itself) has.");
        Counted x = new Counted();
        Check.write(x, 0, "abc");
        x.remove(0, 0);
        Check.due("has(0, 0)", x.has(0, 0), 4);
        Check.due("has(1, 0)", x.has(1, 0), 0);
        for (int k = 0; k < 4; k++) {
            x.bring(0, k, 1);
            Check.due("has(1, 0) behind CHANGE " + k, x.has(1, 0), k + 1);
        }
        x.bring(0, 0, 1);
        Check.due("has(1, 0) behind one that was there", x.has(1, 0), 4);
        Check.due("has(0, 1)", x.has(0, 1), 0);
        Check.due("has(1, 1)", x.has(1, 1), 0);
    }

    private static void whatAThirdBrought() {
        Check.sentence("How many CHANGES of a COPY another one (or itself) has.");
        Counted x = new Counted();
        Check.write(x, 0, "abc");
        x.bring(0, 0, 1);
        x.bring(0, 1, 1);
        x.insert(1, 0, 'x');
        x.merge(1, 2);
        int[][] want = {{3, 0, 0, 0}, {2, 1, 0, 0}, {2, 1, 0, 0}, {0, 0, 0, 0}};
        for (int c = 0; c < 4; c++) {
            for (int of = 0; of < 4; of++) {
                Check.due("has(" + c + ", " + of + ")", x.has(c, of), want[c][of]);
            }
        }
    }

    private static void refusedAndBadOnesDoNotCount() {
        Check.sentence("A refused call changes nothing.");
        Counted x = new Counted();
        Check.write(x, 0, "ab");
        Check.refused("bring(0, 1, 1)", () -> x.bring(0, 1, 1));
        Check.due("has(1, 0)", x.has(1, 0), 0);
        Check.bad("bring(0, 2, 1)", () -> x.bring(0, 2, 1));
        Check.due("has(1, 0)", x.has(1, 0), 0);
        Check.bad("insert(0, 3, 97)", () -> x.insert(0, 3, 97));
        Check.bad("remove(0, 2)", () -> x.remove(0, 2));
        Check.due("has(0, 0)", x.has(0, 0), 2);
    }

    private static void upToFourHundred() {
        Check.sentence("a COPY's own are numbered from 0 on, at most 400");
        Counted x = new Counted();
        Steps.letters(2, 399).on(x);
        Check.due("has(2, 2)", x.has(2, 2), 399);
        x.insert(2, 0, 'a');
        Check.due("has(2, 2)", x.has(2, 2), 400);
        Check.refused("insert(2, 0, 97)", () -> x.insert(2, 0, 97));
        Check.due("has(2, 2)", x.has(2, 2), 400);
        x.merge(2, 0);
        Check.due("has(0, 2)", x.has(0, 2), 400);
    }

    private static void changesNothing() {
        Check.sentence("How many CHANGES of a COPY another one (or itself) has.");
        Still several = new Still(Steps.several());
        several.fine("has(0, 0)", x -> x.has(0, 0));
        several.fine("has(0, 2)", x -> x.has(0, 2));
        several.fine("has(3, 1)", x -> x.has(3, 1));
    }
}
