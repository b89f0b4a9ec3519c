/** Promise 4: bring. */
public final class BringTest {
    public static void main(String[] args) {
        comesInOrder();
        needsWhatTheMakerHad();
        bringsATakingAway();
        twiceIsNothing();
        badNumbers();
        Check.end();
    }

    private static void comesInOrder() {
        LetterWeave x = new LetterWeave();
        Check.write(x, 0, "abc");
        String before = Check.state(x);
        Check.refused("bring(0, 1, 1) before 0", () -> x.bring(0, 1, 1));
        Check.refused("bring(0, 2, 1) before 0", () -> x.bring(0, 2, 1));
        Check.due("state behind refused calls", Check.state(x), before);
        Check.fine("bring(0, 0, 1)", () -> x.bring(0, 0, 1));
        Check.due("text", Check.text(x, 1), "a");
        Check.due("has(1, 0)", x.has(1, 0), 1);
        Check.refused("bring(0, 2, 1) before 1", () -> x.bring(0, 2, 1));
        Check.fine("bring(0, 1, 1)", () -> x.bring(0, 1, 1));
        Check.fine("bring(0, 2, 1)", () -> x.bring(0, 2, 1));
        Check.due("text", Check.text(x, 1), "abc");
        Check.due("a third COPY has nothing", x.length(2), 0);
    }

    private static void needsWhatTheMakerHad() {
        LetterWeave x = new LetterWeave();
        x.insert(0, 0, 'a');
        x.merge(0, 1);
        // COPY 1 had the a then, though its own LETTER does not stand behind it.
        x.insert(1, 0, 'b');
        Check.refused("bring(1, 0, 2)", () -> x.bring(1, 0, 2));
        // A CHANGE that COPY 1 got later is not needed.
        x.insert(3, 0, 'z');
        x.merge(3, 1);
        x.bring(0, 0, 2);
        Check.fine("bring(1, 0, 2)", () -> x.bring(1, 0, 2));
        Check.due("text", Check.text(x, 2), "ba");
        Check.due("has(2, 3)", x.has(2, 3), 0);
        x.insert(1, 3, 'c');
        Check.refused("bring(1, 1, 2) without the z", () -> x.bring(1, 1, 2));
        x.bring(3, 0, 2);
        Check.fine("bring(1, 1, 2)", () -> x.bring(1, 1, 2));
        Check.due("text", Check.text(x, 2), Check.text(x, 1));
        Check.due("length", x.length(2), 4);
    }

    private static void bringsATakingAway() {
        LetterWeave x = new LetterWeave();
        Check.write(x, 0, "ab");
        x.merge(0, 1);
        x.remove(1, 0);
        Check.refused("bring(1, 0, 2)", () -> x.bring(1, 0, 2));
        Check.fine("bring(1, 0, 0)", () -> x.bring(1, 0, 0));
        Check.due("text", Check.text(x, 0), "b");
        Check.due("has(0, 1)", x.has(0, 1), 1);
        x.bring(0, 0, 2);
        x.bring(0, 1, 2);
        Check.due("text before", Check.text(x, 2), "ab");
        x.bring(1, 0, 2);
        Check.due("text", Check.text(x, 2), "b");
        Check.due("name of the next LETTER", nextName(x, 2), 4 * 3 + 2);
    }

    private static int nextName(LetterWeave x, int c) {
        x.insert(c, 0, 'n');
        return x.name(c, 0);
    }

    private static void twiceIsNothing() {
        LetterWeave x = new LetterWeave();
        Check.write(x, 0, "ab");
        x.remove(0, 0);
        x.merge(0, 1);
        x.insert(1, 1, 'c');
        x.bring(1, 0, 0);
        String before = Check.state(x);
        for (int k = 0; k < 3; k++) {
            int again = k;
            Check.fine("bring(0, " + k + ", 1) again", () -> x.bring(0, again, 1));
        }
        Check.fine("bring(1, 0, 0) again", () -> x.bring(1, 0, 0));
        Check.due("state", Check.state(x), before);
    }

    private static void badNumbers() {
        LetterWeave x = new LetterWeave();
        Check.bad("bring(0, 0, 1) of a COPY without CHANGES", () -> x.bring(0, 0, 1));
        Check.write(x, 0, "ab");
        x.merge(0, 1);
        String before = Check.state(x);
        Check.bad("bring(0, 0, 0)", () -> x.bring(0, 0, 0));
        Check.bad("bring(-1, 0, 1)", () -> x.bring(-1, 0, 1));
        Check.bad("bring(4, 0, 1)", () -> x.bring(4, 0, 1));
        Check.bad("bring(0, 0, -1)", () -> x.bring(0, 0, -1));
        Check.bad("bring(0, 0, 4)", () -> x.bring(0, 0, 4));
        Check.bad("bring(0, -1, 1)", () -> x.bring(0, -1, 1));
        Check.bad("bring(0, 2, 1)", () -> x.bring(0, 2, 1));
        Check.bad("bring(0, 400, 1)", () -> x.bring(0, 400, 1));
        Check.bad("bring(0, greatest int, 1)", () -> x.bring(0, Integer.MAX_VALUE, 1));
        Check.bad("bring(1, 0, 2) of a COPY that made none", () -> x.bring(1, 0, 2));
        Check.due("state behind bad calls", Check.state(x), before);
    }
}
