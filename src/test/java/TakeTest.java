/** Terms: 'It takes one away: it's marked there, for good.' */
public final class TakeTest {
    public static void main(String[] args) {
        markedThere();
        notElsewhere();
        forGoodWhateverComes();
        takenAwayByTwo();
        oneByOneUntilNothingIsLeft();
        theSameByteIsAnotherLetter();
        Check.end();
    }

    private static void markedThere() {
        Check.sentence("It takes one away: it's marked there");
        Counted x = new Counted();
        Check.write(x, 0, "abc");
        x.remove(0, 1);
        Check.textDue(x, 0, "ac");
        Check.due("name(0, 1)", x.name(0, 1), 4 * 3);
    }

    private static void notElsewhere() {
        Check.sentence("it's marked there");
        Counted x = new Counted();
        Check.write(x, 0, "abc");
        x.merge(0, 1);
        x.remove(0, 1);
        Check.textDue(x, 1, "abc");
        x.merge(1, 2);
        Check.textDue(x, 2, "abc");
    }

    private static void forGoodWhateverComes() {
        Check.sentence("it's marked there, for good.");
        Counted x = new Counted();
        Check.write(x, 0, "ab");
        x.merge(0, 1);
        x.remove(0, 0);
        x.insert(1, 1, 'x');
        Check.due("merge(1, 0)", x.merge(1, 0), 1);
        Check.textDue(x, 0, "xb");
        Check.due("merge(0, 0)", x.merge(0, 0), 0);
        x.merge(0, 2);
        Check.textDue(x, 2, "xb");
        // What made the LETTER is there already: it brings it back neither by bring nor by merge.
        x.bring(0, 0, 2);
        x.merge(1, 2);
        Check.textDue(x, 2, "xb");
        Check.due("length(2)", x.length(2), 2);
    }

    private static void takenAwayByTwo() {
        Check.sentence("it's marked there, for good.");
        Counted x = new Counted();
        Check.write(x, 0, "ab");
        x.merge(0, 1);
        x.merge(0, 2);
        x.remove(0, 0);
        x.remove(1, 0);
        x.remove(2, 0);
        Check.due("the other's taking away is a CHANGE", x.merge(1, 0), 1);
        Check.textDue(x, 0, "b");
        Check.fine("bring(2, 0, 0)", () -> x.bring(2, 0, 0));
        Check.textDue(x, 0, "b");
        Check.due("has(0, 1)", x.has(0, 1), 1);
        Check.due("has(0, 2)", x.has(0, 2), 1);
        Check.due("merge(0, 3)", x.merge(0, 3), 5);
        Check.textDue(x, 3, "b");
    }

    private static void oneByOneUntilNothingIsLeft() {
        Check.sentence("It takes one away");
        Counted x = new Counted();
        Check.write(x, 0, "abcd");
        int[] places = {1, 2, 0, 0};
        String[] left = {"acd", "ac", "c", ""};
        for (int i = 0; i < places.length; i++) {
            Check.due("remove(0, " + places[i] + ")", x.remove(0, places[i]), 4 + i);
            Check.textDue(x, 0, left[i]);
        }
        Check.bad("remove(0, 0) of an empty TEXT", () -> x.remove(0, 0));
        Check.due("has(0, 0)", x.has(0, 0), 8);
    }

    private static void theSameByteIsAnotherLetter() {
        Check.sentence("It takes one away");
        Counted x = new Counted();
        Check.write(x, 0, "aaa");
        x.merge(0, 1);
        x.remove(0, 1);
        x.insert(0, 1, 'a');
        x.merge(0, 1);
        Check.textDue(x, 1, "aaa");
        Check.due("name(1, 0)", x.name(1, 0), 4);
        Check.due("name(1, 1)", x.name(1, 1), 4 * 4);
        Check.due("name(1, 2)", x.name(1, 2), 4 * 3);
    }
}
