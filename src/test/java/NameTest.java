/** Promise 8: name. */
public final class NameTest {
    public static void main(String[] args) {
        fourNAndTheCopy();
        theGreatestNames();
        keepsItsName();
        behindTheEnd();
        beforeTheStart();
        changesNothing();
        Check.end();
    }

    private static void fourNAndTheCopy() {
        Check.sentence("The NAME of LETTER at of TEXT: 4 n and the COPY that made it");
        for (int c = 0; c < 4; c++) {
            Counted x = new Counted();
            Check.write(x, c, "ab");
            x.insert(c, 0, 'c');
            Check.due("name(" + c + ", 0)", x.name(c, 0), 4 * 3 + c);
            Check.due("name(" + c + ", 1)", x.name(c, 1), 4 * 1 + c);
            Check.due("name(" + c + ", 2)", x.name(c, 2), 4 * 2 + c);
            x.remove(c, 1);
            Check.due("name(" + c + ", 1) without the one taken away", x.name(c, 1), 4 * 2 + c);
        }
    }

    private static void theGreatestNames() {
        Check.sentence("4 n and the COPY that made it");
        Counted x = new Counted();
        Steps.letters(3, 400).on(x);
        x.merge(3, 2);
        for (int k = 1; k <= 100; k++) {
            x.insert(2, 0, 'x');
        }
        Check.due("name(3, 399)", x.name(3, 399), 4 * 400 + 3);
        Check.due("name(2, 0)", x.name(2, 0), 4 * 500 + 2);
        Check.due("name(2, 99)", x.name(2, 99), 4 * 401 + 2);
    }

    private static void keepsItsName() {
        Check.sentence("the COPY that made it");
        Counted x = new Counted();
        Check.write(x, 2, "ab");
        x.bring(2, 0, 1);
        Check.due("name(1, 0) of what a bring brought", x.name(1, 0), 4 * 1 + 2);
        x.insert(1, 1, 'd');
        Check.due("name(1, 1)", x.name(1, 1), 4 * 2 + 1);
        x.merge(1, 3);
        Check.due("name(3, 0) of what a merge brought", x.name(3, 0), 4 * 1 + 2);
        Check.due("name(3, 1) of what a merge brought", x.name(3, 1), 4 * 2 + 1);
    }

    private static void behindTheEnd() {
        Check.sentence("-1 behind its end");
        Counted x = new Counted();
        Check.due("name(3, 0) of an empty TEXT", x.name(3, 0), -1);
        Check.due("name(3, 1) of an empty TEXT", x.name(3, 1), -1);
        Check.write(x, 3, "abc");
        Check.due("name(3, 2)", x.name(3, 2), 4 * 3 + 3);
        int[] behind = {3, 4, 400, 512, 513, Integer.MAX_VALUE};
        for (int at : behind) {
            Check.due("name(3, " + at + ")", x.name(3, at), -1);
            Check.due("name(0, " + at + ")", x.name(0, at), -1);
        }
        x.remove(3, 1);
        Check.due("name(3, 1)", x.name(3, 1), 4 * 3 + 3);
        Check.due("name(3, 2) where one is taken away", x.name(3, 2), -1);
        x.remove(3, 0);
        x.remove(3, 0);
        Check.due("name(3, 0) where all are taken away", x.name(3, 0), -1);
        Counted full = new Counted();
        Steps.letters(1, 400).on(full);
        Check.due("name(1, 399)", full.name(1, 399), 4 * 400 + 1);
        Check.due("name(1, 400)", full.name(1, 400), -1);
    }

    private static void beforeTheStart() {
        Check.sentence("\"Bad\" is IllegalArgumentException: a number out of range");
        Still empty = new Still(Steps.none());
        Still several = new Still(Steps.several());
        int[] before = {-1, -2, Integer.MIN_VALUE};
        for (int at : before) {
            for (int c = 0; c < 4; c++) {
                int copy = c;
                empty.bad("name(" + c + ", " + at + ")", x -> x.name(copy, at));
                several.bad("name(" + c + ", " + at + ")", x -> x.name(copy, at));
            }
        }
    }

    private static void changesNothing() {
        Check.sentence("The NAME of LETTER at of TEXT");
        Still several = new Still(Steps.several());
        several.fine("name(0, 0)", x -> x.name(0, 0));
        several.fine("name(1, 2)", x -> x.name(1, 2));
        several.fine("name(2, 2) behind the end", x -> x.name(2, 2));
    }
}
