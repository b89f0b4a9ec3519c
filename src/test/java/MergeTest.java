/** Promise 5: merge. */
public final class MergeTest {
    public static void main(String[] args) {
        bringsAllThatIsNew();
        bringsWhatOthersMade();
        comesToTheSameOrder();
        greatestNameFirst();
        withItself();
        badNumbers();
        Check.end();
    }

    private static void bringsAllThatIsNew() {
        LetterWeave x = new LetterWeave();
        Check.write(x, 0, "abc");
        x.remove(0, 1);
        Check.due("merge(0, 1)", x.merge(0, 1), 4);
        Check.due("text", Check.text(x, 1), "ac");
        Check.due("merge(0, 1) again", x.merge(0, 1), 0);
        Check.due("merge(1, 0)", x.merge(1, 0), 0);
        Check.write(x, 0, "d");
        Check.due("merge(0, 1) of one more", x.merge(0, 1), 1);
        Check.due("text", Check.text(x, 1), "acd");
        Check.due("merge takes nothing from where it comes", Check.text(x, 0), "acd");
    }

    private static void bringsWhatOthersMade() {
        LetterWeave x = new LetterWeave();
        x.insert(0, 0, 'a');
        x.merge(0, 1);
        x.insert(1, 1, 'b');
        x.merge(1, 2);
        x.insert(2, 2, 'c');
        x.insert(0, 0, 'z');
        Check.due("merge(2, 3)", x.merge(2, 3), 3);
        Check.due("text", Check.text(x, 3), "abc");
        Check.due("has(3, 0) without the z", x.has(3, 0), 1);
        Check.due("merge(0, 3)", x.merge(0, 3), 1);
        Check.due("text", Check.text(x, 3), "zabc");
        x.bring(0, 1, 1);
        Check.due("merge(3, 1) of what is lacking alone", x.merge(3, 1), 1);
        Check.due("text", Check.text(x, 1), "zabc");
    }

    private static void comesToTheSameOrder() {
        LetterWeave x = new LetterWeave();
        for (int c = 0; c < 4; c++) {
            Check.write(x, c, "" + (char) ('a' + c) + (char) ('A' + c));
        }
        for (int round = 0; round < 2; round++) {
            for (int c = 0; c < 4; c++) {
                x.merge(c, (c + 1) % 4);
            }
        }
        for (int c = 0; c < 4; c++) {
            Check.due("text of " + c, Check.text(x, c), "dDcCbBaA");
        }
    }

    private static void greatestNameFirst() {
        LetterWeave x = new LetterWeave();
        x.insert(3, 0, 'd');
        Check.write(x, 0, "ab");
        x.insert(0, 0, 'c');
        // n goes before the COPY: c is (3, 0), d is (1, 3), a is (1, 0).
        Check.due("merge(0, 3)", x.merge(0, 3), 3);
        Check.due("text", Check.text(x, 3), "cdab");
        Check.due("merge(3, 0)", x.merge(3, 0), 1);
        Check.due("text", Check.text(x, 0), "cdab");
    }

    private static void withItself() {
        LetterWeave x = new LetterWeave();
        Check.write(x, 0, "ab");
        String before = Check.state(x);
        Check.due("merge(0, 0)", x.merge(0, 0), 0);
        Check.due("state", Check.state(x), before);
    }

    private static void badNumbers() {
        LetterWeave x = new LetterWeave();
        Check.write(x, 0, "ab");
        String before = Check.state(x);
        Check.bad("merge(-1, 0)", () -> x.merge(-1, 0));
        Check.bad("merge(4, 0)", () -> x.merge(4, 0));
        Check.bad("merge(0, -1)", () -> x.merge(0, -1));
        Check.bad("merge(0, 4)", () -> x.merge(0, 4));
        Check.bad("merge of the same bad COPY", () -> x.merge(4, 4));
        Check.due("state behind bad calls", Check.state(x), before);
    }
}
