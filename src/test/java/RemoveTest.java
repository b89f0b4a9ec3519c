/** Promise 3: remove. */
public final class RemoveTest {
    public static void main(String[] args) {
        takesAway();
        isForGood();
        keepsPlaceForOthers();
        badNumbers();
        atMostFourHundred();
        Check.end();
    }

    private static void takesAway() {
        LetterWeave x = new LetterWeave();
        Check.write(x, 0, "abcd");
        Check.due("remove in the middle", x.remove(0, 1), 4);
        Check.due("text", Check.text(x, 0), "acd");
        Check.due("remove at the end", x.remove(0, 2), 5);
        Check.due("text", Check.text(x, 0), "ac");
        Check.due("remove in front", x.remove(0, 0), 6);
        Check.due("text", Check.text(x, 0), "c");
        Check.due("remove the last one", x.remove(0, 0), 7);
        Check.due("text", Check.text(x, 0), "");
    }

    private static void isForGood() {
        LetterWeave x = new LetterWeave();
        Check.write(x, 0, "ab");
        x.merge(0, 1);
        x.remove(0, 0);
        Check.due("only in the COPY that took it", Check.text(x, 1), "ab");
        Check.due("nothing new from a COPY that has it", x.merge(1, 0), 0);
        Check.due("gone still", Check.text(x, 0), "b");
        x.remove(1, 0);
        Check.due("the other's taking away is a CHANGE", x.merge(1, 0), 1);
        Check.due("taken away by two is one LETTER less", Check.text(x, 0), "b");
        Check.due("length", x.length(0), 1);
        Check.due("both ways", x.merge(0, 1), 1);
        Check.due("length", x.length(1), 1);
    }

    private static void keepsPlaceForOthers() {
        LetterWeave x = new LetterWeave();
        Check.write(x, 0, "abc");
        x.merge(0, 1);
        x.remove(0, 1);
        Check.write(x, 0, "d");
        x.insert(1, 2, 'x');
        x.merge(0, 1);
        x.merge(1, 0);
        Check.due("behind a LETTER taken away", Check.text(x, 0), "axcd");
        Check.due("the same in both", Check.text(x, 1), "axcd");
    }

    private static void badNumbers() {
        LetterWeave x = new LetterWeave();
        Check.bad("remove(0, 0) of nothing", () -> x.remove(0, 0));
        Check.write(x, 0, "abc");
        x.remove(0, 1);
        String before = Check.state(x);
        Check.bad("remove(-1, 0)", () -> x.remove(-1, 0));
        Check.bad("remove(4, 0)", () -> x.remove(4, 0));
        Check.bad("remove(0, -1)", () -> x.remove(0, -1));
        Check.bad("remove(0, 2)", () -> x.remove(0, 2));
        Check.bad("remove(1, 0)", () -> x.remove(1, 0));
        Check.bad("remove at the greatest int", () -> x.remove(0, Integer.MAX_VALUE));
        Check.bad("remove at the least int", () -> x.remove(0, Integer.MIN_VALUE));
        Check.due("state behind bad calls", Check.state(x), before);
        Check.due("the next CHANGE", x.remove(0, 0), 4);
    }

    private static void atMostFourHundred() {
        LetterWeave x = new LetterWeave();
        for (int k = 0; k < 398; k++) {
            x.insert(0, 0, 97);
        }
        Check.due("the 399th CHANGE", x.remove(0, 397), 398);
        Check.due("the 400th CHANGE", x.remove(0, 0), 399);
        Check.refused("the 401st CHANGE", () -> x.remove(0, 0));
        Check.refused("the 401st CHANGE by insert", () -> x.insert(0, 0, 97));
        Check.bad("the 401st CHANGE with a bad place", () -> x.remove(0, 396));
        Check.due("length behind the refused one", x.length(0), 396);
        Check.due("has behind the refused one", x.has(0, 0), 400);
    }
}
