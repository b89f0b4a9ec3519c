/** Terms: the ORDER of the LETTERS of a COPY, and its TEXT. */
public final class OrderTest {
    public static void main(String[] args) {
        atOnceBehind();
        greatestNameFirst();
        eachWithAllBehindItBeforeTheNext();
        deepBehindManyGreaterOnes();
        theSameOrderEverywhere();
        textIsWithoutThoseTakenAwayInIt();
        whatStandsBehindOneTakenAwayStays();
        Check.end();
    }

    private static void atOnceBehind() {
        Check.sentence("behind the START, and behind each LETTER, stand at once those told to stand behind it");
        Counted x = new Counted();
        Check.write(x, 0, "abc");
        x.insert(0, 0, 'S');
        x.insert(0, 2, 'A');
        x.insert(0, 4, 'B');
        x.insert(0, 6, 'C');
        Check.textDue(x, 0, "SaAbBcC");
        x.merge(0, 1);
        Check.textDue(x, 1, "SaAbBcC");
    }

    private static void greatestNameFirst() {
        Check.sentence("the one with the greatest NAME first");
        Counted x = new Counted();
        x.insert(0, 0, 'a');
        for (int c = 1; c < 4; c++) {
            x.merge(0, c);
        }
        for (int c = 0; c < 4; c++) {
            x.insert(c, 1, '0' + c);
        }
        int[] comesFrom = {2, 0, 3, 1};
        for (int from : comesFrom) {
            x.merge(from, 1);
        }
        Check.textDue(x, 1, "a3210");
        x.insert(1, 1, '!');
        Check.textDue(x, 1, "a!3210");
    }

    private static void eachWithAllBehindItBeforeTheNext() {
        Check.sentence("each with all that stands behind it before the next");
        Counted x = new Counted();
        for (int c = 0; c < 4; c++) {
            Check.write(x, c, "" + (char) ('a' + c) + (char) ('A' + c));
        }
        for (int round = 0; round < 2; round++) {
            for (int c = 0; c < 4; c++) {
                x.merge(c, (c + 1) % 4);
            }
        }
        for (int c = 0; c < 4; c++) {
            Check.textDue(x, c, "dDcCbBaA");
        }
        // B's end is not the end of the TEXT: what is put there goes before a, far from the end.
        x.insert(2, 6, '!');
        x.merge(2, 0);
        Check.textDue(x, 0, "dDcCbB!aA");
    }

    private static void deepBehindManyGreaterOnes() {
        Check.sentence("each with all that stands behind it before the next");
        Counted x = new Counted();
        Check.write(x, 1, "az");
        x.merge(1, 0);
        x.merge(1, 2);
        x.insert(1, 1, 'b');
        x.insert(1, 2, 'c');
        x.insert(1, 3, 'd');
        x.insert(1, 2, 'e');
        x.insert(0, 1, 'p');
        x.insert(2, 1, 'q');
        // b is (3, 1): q (3, 2) goes before it, p (3, 0) behind all that stands behind b, before z (2, 1).
        Check.textDue(x, 1, "abecdz");
        x.merge(0, 1);
        Check.textDue(x, 1, "abecdpz");
        x.merge(2, 1);
        Check.textDue(x, 1, "aqbecdpz");
        x.merge(2, 0);
        Check.textDue(x, 0, "aqpz");
        x.merge(1, 0);
        Check.textDue(x, 0, "aqbecdpz");
    }

    private static void theSameOrderEverywhere() {
        Check.sentence("comes to the same order everywhere");
        Steps apart = x -> {
            for (int round = 0; round < 5; round++) {
                for (int c = 0; c < 4; c++) {
                    x.insert(c, x.length(c) / 2, 'a' + c);
                    x.insert(c, x.length(c), 'A' + c);
                    if (round % 2 == 1) {
                        x.remove(c, c % 3);
                    }
                }
                x.merge(round % 4, (round + 1) % 4);
            }
        };
        Steps up = apart.then(x -> x.merge(1, 0)).then(x -> x.merge(2, 0)).then(x -> x.merge(3, 0));
        Steps down = apart.then(x -> x.merge(0, 3)).then(x -> x.merge(2, 3)).then(x -> x.merge(1, 3));
        Steps around = apart.then(x -> x.merge(3, 0)).then(x -> x.merge(0, 2)).then(x -> x.merge(1, 2));
        String want = Look.copy(up, 0);
        Check.due("all in COPY 3", Look.copy(down, 3), want);
        Check.due("all in COPY 2", Look.copy(around, 2), want);
    }

    private static void textIsWithoutThoseTakenAwayInIt() {
        Check.sentence("A COPY's TEXT: its LETTERS in their ORDER, without those taken away in it.");
        Counted x = new Counted();
        Check.write(x, 0, "abcd");
        x.merge(0, 1);
        x.remove(0, 1);
        x.remove(0, 2);
        x.remove(1, 0);
        Check.textDue(x, 0, "ac");
        Check.textDue(x, 1, "bcd");
        x.merge(0, 1);
        Check.textDue(x, 1, "c");
        Check.textDue(x, 0, "ac");
        x.merge(1, 0);
        Check.textDue(x, 0, "c");
    }

    private static void whatStandsBehindOneTakenAwayStays() {
        Check.sentence("A COPY's TEXT: its LETTERS in their ORDER, without those taken away in it.");
        Counted x = new Counted();
        Check.write(x, 0, "abc");
        x.merge(0, 1);
        x.remove(0, 1);
        Check.write(x, 0, "d");
        x.insert(1, 2, 'x');
        x.merge(0, 1);
        x.merge(1, 0);
        Check.textDue(x, 0, "axcd");
        Check.textDue(x, 1, "axcd");
    }
}
