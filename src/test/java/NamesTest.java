/** Terms: 'Of two NAMES the greater one has the greater n, or, if they're the same, the greater COPY.' */
public final class NamesTest {
    public static void main(String[] args) {
        Check.sentence("Of two NAMES the greater one has the greater n, or, if they're the same, the greater COPY.");
        for (int small = 0; small < 4; small++) {
            for (int great = small + 1; great < 4; great++) {
                sameNBehindTheStart(small, great);
                sameNBehindALetter(small, great);
                greaterNBehindTheStart(small, great);
                greaterNBehindALetter(small, great);
                ordersOfTheNamesAsNumbers(small, great);
            }
        }
        Check.end();
    }

    private static void both(Counted x, int a, int b, String want) {
        x.merge(a, b);
        x.merge(b, a);
        Check.textDue(x, a, want);
        Check.textDue(x, b, want);
    }

    private static void sameNBehindTheStart(int small, int great) {
        Counted x = new Counted();
        x.insert(great, 0, 'g');
        x.insert(small, 0, 's');
        both(x, small, great, "gs");
    }

    private static void sameNBehindALetter(int small, int great) {
        Counted x = new Counted();
        x.insert(small, 0, 'a');
        x.merge(small, great);
        x.insert(small, 1, 's');
        x.insert(great, 1, 'g');
        both(x, great, small, "ags");
    }

    /** The smaller COPY's LETTER has the n that is one greater: n goes first. */
    private static void greaterNBehindTheStart(int small, int great) {
        Counted x = new Counted();
        x.insert(great, 0, 'g');
        x.insert(small, 0, 'a');
        x.insert(small, 0, 's');
        both(x, small, great, "sga");
    }

    private static void greaterNBehindALetter(int small, int great) {
        Counted x = new Counted();
        x.insert(small, 0, 'a');
        x.merge(small, great);
        x.insert(great, 1, 'g');
        x.insert(small, 0, 'b');
        x.insert(small, 2, 's');
        // s is (3, small), g is (2, great).
        both(x, small, great, "basg");
    }

    private static void ordersOfTheNamesAsNumbers(int small, int great) {
        Counted x = new Counted();
        x.insert(great, 0, 'g');
        x.insert(small, 0, 's');
        x.insert(small, 0, 't');
        Check.due("the greater COPY's NAME", x.name(great, 0), 4 + great);
        Check.due("the smaller COPY's NAME", x.name(small, 1), 4 + small);
        Check.due("the NAME with the greater n", x.name(small, 0), 8 + small);
    }
}
