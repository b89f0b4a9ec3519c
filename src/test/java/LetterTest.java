/** Promise 7: letter. */
public final class LetterTest {
    public static void main(String[] args) {
        byteOfTheText();
        theEdgesOfAByte();
        behindTheEnd();
        beforeTheStart();
        changesNothing();
        Check.end();
    }

    private static void byteOfTheText() {
        Check.sentence("Byte at of TEXT");
        Counted x = new Counted();
        Check.write(x, 0, "abcd");
        for (int at = 0; at < 4; at++) {
            Check.due("letter(0, " + at + ")", x.letter(0, at), 'a' + at);
        }
        x.remove(0, 0);
        x.remove(0, 1);
        Check.due("letter(0, 0) without those taken away", x.letter(0, 0), 'b');
        Check.due("letter(0, 1) without those taken away", x.letter(0, 1), 'd');
        x.merge(0, 1);
        Check.due("letter(1, 0)", x.letter(1, 0), 'b');
        Check.due("letter(1, 1)", x.letter(1, 1), 'd');
    }

    /** -1 is no byte: 255 must not be taken for it, nor 0 for nothing. */
    private static void theEdgesOfAByte() {
        Check.sentence("Byte at of TEXT; -1 behind its end.");
        int[] edges = {0, 127, 128, 255};
        for (int letter : edges) {
            Counted x = new Counted();
            x.insert(0, 0, letter);
            Check.due("letter(0, 0) of " + letter, x.letter(0, 0), letter);
            Check.due("letter(0, 1) behind " + letter, x.letter(0, 1), -1);
        }
    }

    private static void behindTheEnd() {
        Check.sentence("-1 behind its end");
        Counted x = new Counted();
        Check.due("letter(0, 0) of an empty TEXT", x.letter(0, 0), -1);
        Check.due("letter(0, 1) of an empty TEXT", x.letter(0, 1), -1);
        Check.write(x, 0, "abc");
        Check.due("letter(0, 2)", x.letter(0, 2), 'c');
        int[] behind = {3, 4, 400, 512, 513, Integer.MAX_VALUE};
        for (int at : behind) {
            Check.due("letter(0, " + at + ")", x.letter(0, at), -1);
            Check.due("letter(1, " + at + ")", x.letter(1, at), -1);
        }
        x.remove(0, 1);
        Check.due("letter(0, 1)", x.letter(0, 1), 'c');
        Check.due("letter(0, 2) where one is taken away", x.letter(0, 2), -1);
        x.remove(0, 0);
        x.remove(0, 0);
        Check.due("letter(0, 0) where all are taken away", x.letter(0, 0), -1);
        Counted full = new Counted();
        Steps.letters(2, 400).on(full);
        Check.due("letter(2, 399)", full.letter(2, 399), 'a' + 399 % 26);
        Check.due("letter(2, 400)", full.letter(2, 400), -1);
    }

    private static void beforeTheStart() {
        Check.sentence("\"Bad\" is IllegalArgumentException: a number out of range");
        Still empty = new Still(Steps.none());
        Still several = new Still(Steps.several());
        int[] before = {-1, -2, Integer.MIN_VALUE};
        for (int at : before) {
            for (int c = 0; c < 4; c++) {
                int copy = c;
                empty.bad("letter(" + c + ", " + at + ")", x -> x.letter(copy, at));
                several.bad("letter(" + c + ", " + at + ")", x -> x.letter(copy, at));
            }
        }
    }

    private static void changesNothing() {
        Check.sentence("Byte at of TEXT; -1 behind its end.");
        Still several = new Still(Steps.several());
        several.fine("letter(0, 0)", x -> x.letter(0, 0));
        several.fine("letter(1, 2)", x -> x.letter(1, 2));
        several.fine("letter(2, 2) behind the end", x -> x.letter(2, 2));
    }
}
