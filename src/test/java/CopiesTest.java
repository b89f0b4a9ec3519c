/** Terms: 'COPIES 0 .. 3, empty at first.' */
public final class CopiesTest {
    public static void main(String[] args) {
        Check.sentence("COPIES 0 .. 3, empty at first.");
        eachIsACopyOfItsOwn();
        nothingElseIsACopy(new Still(Steps.none()));
        nothingElseIsACopy(new Still(Steps.several()));
        emptyUntilSomethingComes();
        Check.end();
    }

    private static void eachIsACopyOfItsOwn() {
        Counted x = new Counted();
        for (int c = 0; c < 4; c++) {
            Check.due("insert(" + c + ", 0, " + c + ")", x.insert(c, 0, c), 0);
        }
        for (int c = 0; c < 4; c++) {
            Check.due("length(" + c + ")", x.length(c), 1);
            Check.due("letter(" + c + ", 0)", x.letter(c, 0), c);
            Check.due("name(" + c + ", 0)", x.name(c, 0), 4 + c);
            for (int of = 0; of < 4; of++) {
                Check.due("has(" + c + ", " + of + ")", x.has(c, of), c == of ? 1 : 0);
            }
        }
        for (int c = 0; c < 4; c++) {
            int from = c;
            int to = 3 - c;
            Check.fine("bring(" + from + ", 0, " + to + ")", () -> x.bring(from, 0, to));
        }
        Check.due("merge(0, 3)", x.merge(0, 3), 0);
        Check.due("merge(3, 1)", x.merge(3, 1), 2);
        for (int c = 0; c < 4; c++) {
            Check.due("remove(" + c + ", 0)", x.remove(c, 0), 1);
        }
    }

    private static void nothingElseIsACopy(Still still) {
        for (int no : Check.NO_COPIES) {
            still.bad("insert(" + no + ", 0, 97)", x -> x.insert(no, 0, 97));
            still.bad("remove(" + no + ", 0)", x -> x.remove(no, 0));
            still.bad("bring(" + no + ", 0, 1)", x -> x.bring(no, 0, 1));
            still.bad("bring(0, 0, " + no + ")", x -> x.bring(0, 0, no));
            still.bad("bring(" + no + ", 0, " + no + ")", x -> x.bring(no, 0, no));
            still.bad("merge(" + no + ", 1)", x -> x.merge(no, 1));
            still.bad("merge(0, " + no + ")", x -> x.merge(0, no));
            still.bad("merge(" + no + ", " + no + ")", x -> x.merge(no, no));
            still.bad("length(" + no + ")", x -> x.length(no));
            still.bad("letter(" + no + ", 0)", x -> x.letter(no, 0));
            still.bad("letter(" + no + ", 1000)", x -> x.letter(no, 1000));
            still.bad("name(" + no + ", 0)", x -> x.name(no, 0));
            still.bad("name(" + no + ", 1000)", x -> x.name(no, 1000));
            still.bad("has(" + no + ", 0)", x -> x.has(no, 0));
            still.bad("has(0, " + no + ")", x -> x.has(0, no));
            still.bad("has(" + no + ", " + no + ")", x -> x.has(no, no));
        }
    }

    private static void emptyUntilSomethingComes() {
        Steps written = Steps.letters(1, 5);
        for (int c = 0; c < 4; c++) {
            Check.due("COPY " + c, Look.copy(written, c).startsWith("0 ") ? "empty" : "not empty",
                    c == 1 ? "not empty" : "empty");
        }
    }
}
