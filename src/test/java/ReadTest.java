/** Promises 6 to 9: length, letter, name and has. */
public final class ReadTest {
    public static void main(String[] args) {
        lengthOfTheText();
        letterOfTheText();
        nameOfTheLetter();
        nameCountsWhatWasTakenAway();
        hasCountsChanges();
        Check.end();
    }

    private static void lengthOfTheText() {
        LetterWeave x = new LetterWeave();
        Check.write(x, 1, "abc");
        Check.due("length(1)", x.length(1), 3);
        x.remove(1, 0);
        Check.due("length(1) when one is taken away", x.length(1), 2);
        Check.due("length(0)", x.length(0), 0);
        x.merge(1, 0);
        Check.due("length(0) behind a merge", x.length(0), 2);
        Check.bad("length(-1)", () -> x.length(-1));
        Check.bad("length(4)", () -> x.length(4));
    }

    private static void letterOfTheText() {
        LetterWeave x = new LetterWeave();
        x.insert(0, 0, 0);
        x.insert(0, 1, 255);
        x.insert(0, 1, 7);
        Check.due("letter(0, 0)", x.letter(0, 0), 0);
        Check.due("letter(0, 1)", x.letter(0, 1), 7);
        Check.due("letter(0, 2)", x.letter(0, 2), 255);
        Check.due("letter(0, 3)", x.letter(0, 3), -1);
        x.remove(0, 1);
        Check.due("letter(0, 1)", x.letter(0, 1), 255);
        Check.due("letter(0, 2)", x.letter(0, 2), -1);
        Check.due("letter far behind the end", x.letter(0, Integer.MAX_VALUE), -1);
        Check.bad("letter(0, -1)", () -> x.letter(0, -1));
        Check.bad("letter at the least int", () -> x.letter(0, Integer.MIN_VALUE));
        Check.bad("letter(-1, 0)", () -> x.letter(-1, 0));
        Check.bad("letter(4, 0)", () -> x.letter(4, 0));
    }

    private static void nameOfTheLetter() {
        LetterWeave x = new LetterWeave();
        Check.write(x, 2, "ab");
        x.insert(2, 0, 'c');
        Check.due("name(2, 0)", x.name(2, 0), 4 * 3 + 2);
        Check.due("name(2, 1)", x.name(2, 1), 4 * 1 + 2);
        Check.due("name(2, 2)", x.name(2, 2), 4 * 2 + 2);
        Check.due("name(2, 3)", x.name(2, 3), -1);
        Check.due("name far behind the end", x.name(2, Integer.MAX_VALUE), -1);
        x.bring(2, 0, 1);
        x.insert(1, 1, 'd');
        Check.due("name behind a bring", x.name(1, 1), 4 * 2 + 1);
        x.merge(2, 1);
        x.insert(1, 0, 'e');
        Check.due("name behind a merge", x.name(1, 0), 4 * 4 + 1);
        x.merge(1, 3);
        Check.due("a LETTER keeps its name", x.name(3, 0), 4 * 4 + 1);
        Check.bad("name(0, -1)", () -> x.name(0, -1));
        Check.bad("name at the least int", () -> x.name(0, Integer.MIN_VALUE));
        Check.bad("name(-1, 0)", () -> x.name(-1, 0));
        Check.bad("name(4, 0)", () -> x.name(4, 0));
    }

    private static void nameCountsWhatWasTakenAway() {
        LetterWeave x = new LetterWeave();
        Check.write(x, 0, "ab");
        x.remove(0, 1);
        x.remove(0, 0);
        x.insert(0, 0, 'c');
        // The LETTERS taken away are in the COPY still, and a taking away has no n.
        Check.due("name(0, 0)", x.name(0, 0), 4 * 3);
    }

    private static void hasCountsChanges() {
        LetterWeave x = new LetterWeave();
        Check.write(x, 0, "abc");
        x.remove(0, 0);
        Check.due("has(0, 0)", x.has(0, 0), 4);
        Check.due("has(1, 0)", x.has(1, 0), 0);
        x.bring(0, 0, 1);
        x.bring(0, 1, 1);
        Check.due("has(1, 0)", x.has(1, 0), 2);
        Check.due("has(0, 1)", x.has(0, 1), 0);
        x.insert(1, 0, 'x');
        x.merge(1, 2);
        Check.due("has(2, 0)", x.has(2, 0), 2);
        Check.due("has(2, 1)", x.has(2, 1), 1);
        Check.due("has(2, 2)", x.has(2, 2), 0);
        Check.due("has(2, 3)", x.has(2, 3), 0);
        Check.bad("has(-1, 0)", () -> x.has(-1, 0));
        Check.bad("has(4, 0)", () -> x.has(4, 0));
        Check.bad("has(0, -1)", () -> x.has(0, -1));
        Check.bad("has(0, 4)", () -> x.has(0, 4));
    }
}
