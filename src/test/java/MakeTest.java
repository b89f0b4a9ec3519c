/** Terms: 'A COPY makes a LETTER: its n is one more than the greatest n ..., behind the LETTER before the place'. */
public final class MakeTest {
    public static void main(String[] args) {
        oneIfThereIsNone();
        oneMoreThanTheGreatest();
        aSmallerOneThatComesChangesNothing();
        aGreaterOneThatComesCounts();
        oneTakenAwayCountsStill();
        takingAwayHasNoN();
        othersDoNotCount();
        behindTheLetterBeforeThePlace();
        notBehindOneTakenAway();
        behindTheStartAtZero();
        Check.end();
    }

    private static void oneIfThereIsNone() {
        Check.sentence("its n is one more than the greatest n of a LETTER in it (1 if there's none)");
        for (int c = 0; c < 4; c++) {
            Check.due("n of the first LETTER of COPY " + c, Check.nextN(new Counted(), c), 1);
        }
    }

    private static void oneMoreThanTheGreatest() {
        Check.sentence("its n is one more than the greatest n of a LETTER in it");
        Counted x = new Counted();
        for (int n = 1; n <= 20; n++) {
            Check.due("n of LETTER number " + n, Check.nextN(x, 2), n);
        }
    }

    private static void aSmallerOneThatComesChangesNothing() {
        Check.sentence("its n is one more than the greatest n of a LETTER in it");
        Counted x = new Counted();
        Check.write(x, 1, "abcde");
        x.insert(0, 0, 'x');
        x.bring(0, 0, 1);
        Check.due("n behind one that came with n 1", Check.nextN(x, 1), 6);
        Check.write(x, 2, "1234");
        x.merge(2, 1);
        Check.due("n behind four that came with n 1 .. 4", Check.nextN(x, 1), 7);
    }

    private static void aGreaterOneThatComesCounts() {
        Check.sentence("its n is one more than the greatest n of a LETTER in it");
        Counted x = new Counted();
        Check.write(x, 0, "abc");
        x.insert(1, 0, 'x');
        x.bring(0, 0, 1);
        Check.due("n behind one that came with n 1", Check.nextN(x, 1), 2);
        x.bring(0, 1, 1);
        x.bring(0, 2, 1);
        Check.due("n behind one that came with n 3", Check.nextN(x, 1), 4);
        x.merge(1, 3);
        Check.due("n behind a merge from a COPY with n 4", Check.nextN(x, 3), 5);
    }

    private static void oneTakenAwayCountsStill() {
        Check.sentence("its n is one more than the greatest n of a LETTER in it");
        Counted x = new Counted();
        Check.write(x, 0, "abc");
        x.remove(0, 2);
        Check.due("n behind the greatest taken away", Check.nextN(x, 0), 4);
        for (int at = 2; at >= 0; at--) {
            x.remove(0, at);
        }
        Check.due("length(0)", x.length(0), 0);
        Check.due("n behind all taken away", Check.nextN(x, 0), 5);
        x.remove(0, 0);
        x.merge(0, 1);
        Check.due("length(1)", x.length(1), 0);
        Check.due("n in a COPY to which all came as taken away", Check.nextN(x, 1), 6);
    }

    private static void takingAwayHasNoN() {
        Check.sentence("its n is one more than the greatest n of a LETTER in it");
        Counted x = new Counted();
        Check.write(x, 0, "abcd");
        x.remove(0, 0);
        x.remove(0, 0);
        x.merge(0, 1);
        Check.due("n behind two takings away", Check.nextN(x, 0), 5);
        Check.due("n where two takings away came", Check.nextN(x, 1), 5);
    }

    private static void othersDoNotCount() {
        Check.sentence("the greatest n of a LETTER in it");
        Counted x = new Counted();
        Check.write(x, 0, "abcdef");
        Check.due("n of the first LETTER of COPY 1", Check.nextN(x, 1), 1);
        x.bring(0, 0, 2);
        x.bring(0, 1, 2);
        Check.due("n in a COPY with two of six", Check.nextN(x, 2), 3);
    }

    private static void behindTheLetterBeforeThePlace() {
        Check.sentence("behind the LETTER before the place in TEXT where it's put");
        // COPY 1 puts y behind a LETTER at the same time as COPY 0 x: the greater COPY's goes first
        // where both are behind the same LETTER.
        for (int place = 1; place <= 3; place++) {
            Counted x = new Counted();
            Check.write(x, 0, "abc");
            x.merge(0, 1);
            x.insert(0, place, 'x');
            x.insert(1, place, 'y');
            x.merge(0, 1);
            Check.textDue(x, 1, "abc".substring(0, place) + "yx" + "abc".substring(place));
        }
    }

    private static void notBehindOneTakenAway() {
        Check.sentence("behind the LETTER before the place in TEXT where it's put");
        // COPY 2 marks the place behind each LETTER, also behind b and d, which COPY 0 takes away:
        // x stands before those two and their marks.
        String[] want = {"xa12c34", "a1x2c34", "a12c3x4"};
        for (int place = 0; place <= 2; place++) {
            Counted x = new Counted();
            Check.write(x, 0, "abcd");
            x.merge(0, 2);
            x.remove(0, 1);
            x.remove(0, 2);
            x.insert(0, place, 'x');
            Check.textDue(x, 0, "ac".substring(0, place) + "x" + "ac".substring(place));
            for (int at = 4; at >= 1; at--) {
                x.insert(2, at, '0' + at);
            }
            x.merge(0, 2);
            Check.textDue(x, 2, want[place]);
        }
    }

    private static void behindTheStartAtZero() {
        Check.sentence("(START at 0)");
        Counted x = new Counted();
        Check.write(x, 0, "ab");
        x.merge(0, 1);
        x.remove(0, 0);
        x.insert(0, 0, 'x');
        x.insert(1, 1, 'm');
        x.merge(0, 1);
        // m stands behind a, which is taken away; x stands before both.
        Check.textDue(x, 1, "xmb");
        x.insert(1, 0, 'y');
        Check.textDue(x, 1, "yxmb");
        Counted empty = new Counted();
        Check.write(empty, 3, "a");
        empty.merge(3, 1);
        empty.remove(3, 0);
        empty.insert(3, 0, 'x');
        empty.insert(1, 1, 'm');
        empty.merge(3, 1);
        Check.textDue(empty, 1, "xm");
    }
}
