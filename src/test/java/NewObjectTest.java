/** Promise 1: a new object. */
public final class NewObjectTest {
    public static void main(String[] args) {
        Check.sentence("All COPIES are empty.");
        showsNothing();
        hasNothingToBring();
        objectsShareNothing();
        Check.end();
    }

    private static void showsNothing() {
        Counted x = new Counted();
        for (int c = 0; c < 4; c++) {
            Check.due("length(" + c + ")", x.length(c), 0);
            Check.due("letter(" + c + ", 0)", x.letter(c, 0), -1);
            Check.due("name(" + c + ", 0)", x.name(c, 0), -1);
            for (int other = 0; other < 4; other++) {
                Check.due("has(" + c + ", " + other + ")", x.has(c, other), 0);
            }
        }
    }

    private static void hasNothingToBring() {
        Still still = new Still(Steps.none());
        for (int c = 0; c < 4; c++) {
            int from = c;
            int to = (c + 1) % 4;
            Check.due("merge(" + from + ", " + to + ")", new Counted().merge(from, to), 0);
            still.fine("merge(" + from + ", " + to + ")", x -> x.merge(from, to));
            still.bad("bring(" + from + ", 0, " + to + ")", x -> x.bring(from, 0, to));
            still.bad("remove(" + from + ", 0)", x -> x.remove(from, 0));
            still.bad("insert(" + from + ", 1, 97)", x -> x.insert(from, 1, 97));
        }
    }

    private static void objectsShareNothing() {
        Counted written = new Counted();
        Check.write(written, 0, "abc");
        written.merge(0, 1);
        Counted other = new Counted();
        Check.due("length(0) of another object", other.length(0), 0);
        Check.due("has(1, 0) of another object", other.has(1, 0), 0);
        Check.due("insert into another object", other.insert(0, 0, 'x'), 0);
        Check.textDue(written, 0, "abc");
        Check.textDue(written, 1, "abc");
    }
}
