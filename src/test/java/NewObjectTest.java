/** Promise 1: all COPIES of a new object are empty. */
public final class NewObjectTest {
    public static void main(String[] args) {
        LetterWeave x = new LetterWeave();
        for (int c = 0; c < 4; c++) {
            Check.due("length(" + c + ")", x.length(c), 0);
            Check.due("letter(" + c + ", 0)", x.letter(c, 0), -1);
            Check.due("name(" + c + ", 0)", x.name(c, 0), -1);
            for (int other = 0; other < 4; other++) {
                Check.due("has(" + c + ", " + other + ")", x.has(c, other), 0);
                Check.due("merge(" + c + ", " + other + ")", x.merge(c, other), 0);
            }
        }
        objectsShareNothing();
        Check.end();
    }

    private static void objectsShareNothing() {
        LetterWeave written = new LetterWeave();
        Check.write(written, 0, "abc");
        LetterWeave other = new LetterWeave();
        Check.due("length(0) of another object", other.length(0), 0);
        Check.due("insert into another object", other.insert(0, 0, 'x'), 0);
        Check.due("text of the first object", Check.text(written, 0), "abc");
    }
}
