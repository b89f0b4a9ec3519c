import java.util.HashSet;
import java.util.Set;

/** Terms: LETTERS, their bytes and their NAMES. */
public final class LettersTest {
    public static void main(String[] args) {
        everyByte();
        noOtherNumber();
        nFromOneOn();
        theCopyThatMadeIt();
        noNameTwice();
        Check.end();
    }

    private static void everyByte() {
        Check.sentence("LETTERS: a byte value (0 .. 255)");
        Counted x = new Counted();
        for (int letter = 0; letter <= 255; letter++) {
            Check.due("insert of byte " + letter, x.insert(0, letter, letter), letter);
        }
        int[] edges = {0, 1, 127, 128, 254, 255};
        x.merge(0, 2);
        for (int letter : edges) {
            Check.due("letter(0, " + letter + ")", x.letter(0, letter), letter);
            Check.due("letter(2, " + letter + ")", x.letter(2, letter), letter);
        }
    }

    private static void noOtherNumber() {
        Check.sentence("LETTERS: a byte value (0 .. 255)");
        Still empty = new Still(Steps.none());
        Still several = new Still(Steps.several());
        int[] others = {-1, 256, 257, -128, 256 + 97, 65536 + 97, Integer.MIN_VALUE, Integer.MAX_VALUE};
        for (int other : others) {
            empty.bad("insert(0, 0, " + other + ")", x -> x.insert(0, 0, other));
            several.bad("insert(0, 1, " + other + ")", x -> x.insert(0, 1, other));
            several.bad("insert(3, 0, " + other + ")", x -> x.insert(3, 0, other));
        }
    }

    private static void nFromOneOn() {
        Check.sentence("a NAME: a number n from 1 on");
        for (int c = 0; c < 4; c++) {
            Counted x = new Counted();
            Check.write(x, c, "ab");
            Check.due("n of the first LETTER of COPY " + c, x.name(c, 0) / 4, 1);
            Check.due("n of the second LETTER of COPY " + c, x.name(c, 1) / 4, 2);
        }
    }

    private static void theCopyThatMadeIt() {
        Check.sentence("and the COPY that made it");
        Counted x = new Counted();
        for (int c = 0; c < 4; c++) {
            x.insert(c, 0, 'a' + c);
            x.merge(c, (c + 1) % 4);
        }
        // 3 made its LETTER last, in front of all, and COPY 0 has all four.
        for (int c = 0; c < 4; c++) {
            Check.due("maker of letter " + (3 - c) + " in COPY 0", x.name(0, 3 - c) % 4, c);
            Check.due("byte of letter " + (3 - c) + " in COPY 0", x.letter(0, 3 - c), 'a' + c);
        }
    }

    private static void noNameTwice() {
        Check.sentence("a NAME: a number n from 1 on and the COPY that made it");
        Counted x = new Counted();
        for (int round = 0; round < 10; round++) {
            for (int c = 0; c < 4; c++) {
                x.insert(c, 0, c);
                x.insert(c, x.length(c), c);
                x.merge(c, (c + round) % 4);
            }
        }
        x.merge(1, 0);
        x.merge(2, 0);
        x.merge(3, 0);
        Set<Integer> names = new HashSet<>();
        int length = x.length(0);
        Check.due("length(0)", length, 80);
        for (int at = 0; at < length; at++) {
            names.add(x.name(0, at));
        }
        Check.due("how many NAMES", names.size(), length);
    }
}
