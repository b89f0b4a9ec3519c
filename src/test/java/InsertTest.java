/** Promise 2: insert. */
public final class InsertTest {
    public static void main(String[] args) {
        putsAtTheNumber();
        takesEveryByte();
        standsBehindTheLetterBeforeIt();
        badNumbers();
        atMostFourHundred();
        everyCallMayMakeAChange();
        Check.end();
    }

    private static void putsAtTheNumber() {
        LetterWeave x = new LetterWeave();
        Check.due("insert at the end of nothing", x.insert(2, 0, 'b'), 0);
        Check.due("insert in front", x.insert(2, 0, 'a'), 1);
        Check.due("insert at the end", x.insert(2, 2, 'd'), 2);
        Check.due("insert in the middle", x.insert(2, 2, 'c'), 3);
        Check.due("text", Check.text(x, 2), "abcd");
        x.remove(2, 1);
        Check.due("insert counts a taking away too", x.insert(2, 1, 'B'), 5);
        Check.due("text where one was taken away", Check.text(x, 2), "aBcd");
        Check.due("another COPY sees nothing", x.length(1), 0);
        Check.due("another COPY's CHANGES count from 0", x.insert(1, 0, 'z'), 0);
    }

    private static void takesEveryByte() {
        LetterWeave x = new LetterWeave();
        for (int letter = 0; letter <= 255; letter++) {
            x.insert(0, letter, letter);
        }
        for (int letter = 0; letter <= 255; letter += 15) {
            Check.due("letter(0, " + letter + ")", x.letter(0, letter), letter);
        }
    }

    private static void standsBehindTheLetterBeforeIt() {
        LetterWeave x = new LetterWeave();
        Check.write(x, 0, "ab");
        x.merge(0, 1);
        x.remove(0, 1);
        // In COPY 0 the taken b stands behind a as well: the new one goes before it.
        x.insert(0, 1, 'x');
        x.insert(1, 2, 'y');
        x.merge(0, 1);
        x.merge(1, 0);
        Check.due("text of 0", Check.text(x, 0), "axy");
        Check.due("text of 1", Check.text(x, 1), "axy");
    }

    private static void badNumbers() {
        LetterWeave x = new LetterWeave();
        Check.write(x, 0, "ab");
        String before = Check.state(x);
        Check.bad("insert(-1, 0, 97)", () -> x.insert(-1, 0, 97));
        Check.bad("insert(4, 0, 97)", () -> x.insert(4, 0, 97));
        Check.bad("insert(0, -1, 97)", () -> x.insert(0, -1, 97));
        Check.bad("insert(0, 3, 97)", () -> x.insert(0, 3, 97));
        Check.bad("insert(1, 1, 97)", () -> x.insert(1, 1, 97));
        Check.bad("insert(0, 0, -1)", () -> x.insert(0, 0, -1));
        Check.bad("insert(0, 0, 256)", () -> x.insert(0, 0, 256));
        Check.bad("insert of the least ints", () -> x.insert(0, Integer.MIN_VALUE, 97));
        Check.bad("insert of the greatest ints", () -> x.insert(0, Integer.MAX_VALUE, 97));
        Check.due("state behind bad calls", Check.state(x), before);
        Check.due("the next CHANGE", x.insert(0, 2, 'c'), 2);
    }

    private static void atMostFourHundred() {
        LetterWeave x = new LetterWeave();
        for (int k = 0; k < 400; k++) {
            Check.due("insert number " + k, x.insert(3, k, k % 256), k);
        }
        Check.refused("the 401st CHANGE", () -> x.insert(3, 0, 97));
        Check.bad("the 401st CHANGE with a bad place", () -> x.insert(3, 401, 97));
        Check.bad("the 401st CHANGE with a bad byte", () -> x.insert(3, 0, 256));
        Check.due("length behind the refused one", x.length(3), 400);
        Check.due("has behind the refused one", x.has(3, 3), 400);
        Check.due("name of the last", x.name(3, 399), 4 * 400 + 3);
        Check.due("all come to another COPY", x.merge(3, 1), 400);
        Check.due("which may make its own still", x.insert(1, 400, 97), 0);
        Check.due("name of that", x.name(1, 400), 4 * 401 + 1);
    }

    private static void everyCallMayMakeAChange() {
        LetterWeave x = new LetterWeave();
        for (int call = 0; call < 512; call++) {
            int c = call % 4;
            Check.due("insert as call " + call, x.insert(c, call / 4, c), call / 4);
        }
        // Later answers are free, but no call may fail by itself.
        for (int c = 0; c < 4; c++) {
            int copy = c;
            Check.refused("a CHANGE behind call 512", () -> x.insert(copy, 0, 97));
            Check.refused("a taking away behind call 512", () -> x.remove(copy, 0));
            Check.fine("a merge behind call 512", () -> x.merge(copy, 0));
        }
    }
}
