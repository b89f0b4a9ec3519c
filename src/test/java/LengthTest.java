/** Promise 6: length. */
public final class LengthTest {
    public static void main(String[] args) {
        Check.sentence("TEXT's length.");
        upAndDown();
        behindWhatComes();
        fourHundredAndMore();
        changesNothing();
        Check.end();
    }

    private static void upAndDown() {
        Counted x = new Counted();
        Check.due("length(1) of nothing", x.length(1), 0);
        for (int k = 1; k <= 3; k++) {
            x.insert(1, 0, 'a');
            Check.due("length(1)", x.length(1), k);
        }
        for (int k = 2; k >= 0; k--) {
            x.remove(1, 0);
            Check.due("length(1) where one is taken away", x.length(1), k);
        }
        Check.bad("remove(1, 0)", () -> x.remove(1, 0));
        Check.due("length(1) behind a bad call", x.length(1), 0);
        x.insert(1, 0, 'b');
        Check.due("length(1)", x.length(1), 1);
    }

    private static void behindWhatComes() {
        Counted x = new Counted();
        Check.write(x, 1, "abc");
        x.remove(1, 0);
        Check.due("length(0)", x.length(0), 0);
        int[] lengths = {1, 2, 3, 2};
        for (int k = 0; k < lengths.length; k++) {
            x.bring(1, k, 0);
            Check.due("length(0) behind CHANGE " + k, x.length(0), lengths[k]);
        }
        x.merge(1, 2);
        Check.due("length(2) behind a merge", x.length(2), 2);
        x.remove(2, 0);
        x.remove(0, 0);
        x.merge(2, 0);
        Check.due("length(0) where two took the same one away", x.length(0), 1);
        Check.due("length(1)", x.length(1), 2);
    }

    private static void fourHundredAndMore() {
        Counted x = new Counted();
        Steps.letters(0, 400).on(x);
        Check.due("length(0)", x.length(0), 400);
        Steps.letters(1, 100).on(x);
        x.merge(0, 1);
        Check.due("length(1)", x.length(1), 500);
    }

    private static void changesNothing() {
        Still several = new Still(Steps.several());
        for (int c = 0; c < 4; c++) {
            int copy = c;
            several.fine("length(" + c + ")", x -> x.length(copy));
        }
    }
}
