/** Promise 4: bring. */
public final class BringTest {
    public static void main(String[] args) {
        bringsThatChangeAlone();
        bringsATakingAway();
        theSameIsBad();
        noSuchChange();
        firstAndLastOfFourHundred();
        onlyWhatTheCopyMade();
        badGoesBeforeRefused();
        Check.end();
    }

    private static void bringsThatChangeAlone() {
        Check.sentence("CHANGE k of COPY from comes to COPY to");
        Counted x = new Counted();
        Check.write(x, 0, "abc");
        Check.write(x, 1, "x");
        x.bring(0, 0, 1);
        Check.textDue(x, 1, "xa");
        x.bring(1, 0, 0);
        Check.textDue(x, 0, "xabc");
        x.bring(0, 1, 1);
        Check.textDue(x, 1, "xab");
        Check.textDue(x, 2, "");
        Check.textDue(x, 3, "");
    }

    private static void bringsATakingAway() {
        Check.sentence("CHANGE k of COPY from comes to COPY to");
        Counted x = new Counted();
        Check.write(x, 0, "ab");
        x.merge(0, 1);
        x.remove(1, 0);
        Check.refused("bring(1, 0, 2)", () -> x.bring(1, 0, 2));
        Check.fine("bring(1, 0, 0)", () -> x.bring(1, 0, 0));
        Check.textDue(x, 0, "b");
        Check.due("has(0, 1)", x.has(0, 1), 1);
        x.bring(0, 0, 2);
        x.bring(0, 1, 2);
        Check.textDue(x, 2, "ab");
        x.bring(1, 0, 2);
        Check.textDue(x, 2, "b");
    }

    private static void theSameIsBad() {
        Check.sentence("(the same: bad)");
        Still empty = new Still(Steps.none());
        Still several = new Still(Steps.several());
        for (int c = 0; c < 4; c++) {
            int copy = c;
            empty.bad("bring(" + c + ", 0, " + c + ")", x -> x.bring(copy, 0, copy));
            several.bad("bring(" + c + ", 0, " + c + ")", x -> x.bring(copy, 0, copy));
            several.bad("bring(" + c + ", 1, " + c + ")", x -> x.bring(copy, 1, copy));
            several.bad("bring(" + c + ", -1, " + c + ")", x -> x.bring(copy, -1, copy));
            several.bad("bring(" + c + ", 9, " + c + ")", x -> x.bring(copy, 9, copy));
        }
    }

    private static void noSuchChange() {
        Check.sentence("\"Bad\" is IllegalArgumentException: a number out of range");
        Still several = new Still(Steps.several());
        // How many CHANGES each COPY has made there.
        int[] made = {5, 2, 2, 1};
        for (int from = 0; from < 4; from++) {
            int a = from;
            int b = (from + 1) % 4;
            int[] outside = {-1, made[a], made[a] + 1, 399, 400, 512, Integer.MIN_VALUE, Integer.MAX_VALUE};
            for (int k : outside) {
                several.bad("bring(" + a + ", " + k + ", " + b + ")", x -> x.bring(a, k, b));
            }
            Counted x = new Counted();
            Steps.several().on(x);
            Check.due("has(" + a + ", " + a + ")", x.has(a, a), made[a]);
            x.merge(a, b);
            Check.fine("bring(" + a + ", 0, " + b + ")", () -> x.bring(a, 0, b));
            Check.fine("bring(" + a + ", " + (made[a] - 1) + ", " + b + ")", () -> x.bring(a, made[a] - 1, b));
        }
    }

    private static void firstAndLastOfFourHundred() {
        Check.sentence("a COPY's own are numbered from 0 on, at most 400");
        Steps full = Steps.letters(3, 400);
        Still still = new Still(full);
        still.bad("bring(3, 400, 0)", x -> x.bring(3, 400, 0));
        still.refused("bring(3, 399, 0)", x -> x.bring(3, 399, 0));
        Counted x = new Counted();
        Steps.letters(3, 399).on(x);
        x.merge(3, 0);
        Check.bad("bring(3, 399, 0) before it is made", () -> x.bring(3, 399, 0));
        x.insert(3, 399, 'z');
        Check.fine("bring(3, 399, 0)", () -> x.bring(3, 399, 0));
        Check.due("length(0)", x.length(0), 400);
        Check.due("letter(0, 399)", x.letter(0, 399), 'z');
        Check.fine("bring(3, 0, 1)", () -> x.bring(3, 0, 1));
        Check.due("length(1)", x.length(1), 1);
    }

    private static void onlyWhatTheCopyMade() {
        Check.sentence("CHANGE k of COPY from");
        Still still = new Still(x -> {
            Check.write(x, 0, "ab");
            x.merge(0, 1);
        });
        still.bad("bring(1, 0, 2) of a COPY that made none", x -> x.bring(1, 0, 2));
        Counted x = new Counted();
        Check.write(x, 0, "ab");
        x.merge(0, 1);
        x.insert(1, 0, 'c');
        x.merge(0, 2);
        // CHANGE 0 of COPY 1 is the c that it made, not the a that it got.
        x.bring(1, 0, 2);
        Check.textDue(x, 2, "cab");
        Check.bad("bring(1, 1, 3)", () -> x.bring(1, 1, 3));
    }

    private static void badGoesBeforeRefused() {
        Check.sentence("\"Bad\" is IllegalArgumentException: a number out of range; REFUSED ... is IllegalStateException.");
        Still still = new Still(x -> Check.write(x, 0, "abc"));
        still.refused("bring(0, 2, 1)", x -> x.bring(0, 2, 1));
        still.bad("bring(0, 3, 1)", x -> x.bring(0, 3, 1));
        still.bad("bring(0, 2, 0)", x -> x.bring(0, 2, 0));
        still.bad("bring(0, 2, 4)", x -> x.bring(0, 2, 4));
        still.bad("bring(0, 2, -1)", x -> x.bring(0, 2, -1));
    }
}
