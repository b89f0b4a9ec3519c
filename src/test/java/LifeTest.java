/** 'What it is', the second sentence: an object is used for at most 512 calls. */
public final class LifeTest {
    private static final int LIFE = 512;

    public static void main(String[] args) {
        Check.sentence("An object is used for at most 512 calls after it has been made");
        everyCallMakesALetter();
        everySecondCallTakesAway();
        theLastCallIsAnsweredStill();
        theLastCallMayBeBadOrRefused();
        theGreatestMerge();
        Check.sentence("what later calls answer is free");
        laterCallsThrowNothingOfTheirOwn();
        Check.end();
    }

    private static void everyCallMakesALetter() {
        Counted x = new Counted();
        for (int call = 0; call < LIFE; call++) {
            int c = call % 4;
            Check.due("insert as call " + (call + 1), x.insert(c, call / 4, c), call / 4);
        }
    }

    private static void everySecondCallTakesAway() {
        Counted x = new Counted();
        for (int call = 0; call < LIFE; call += 2) {
            int c = call / 2 % 4;
            Check.due("insert as call " + (call + 1), x.insert(c, 0, c), call / 8 * 2);
            Check.due("remove as call " + (call + 2), x.remove(c, 0), call / 8 * 2 + 1);
        }
    }

    /** 511 calls, each with a CHANGE: 400 of COPY 0, and 111 of COPY 1. */
    private static Counted beforeTheLast() {
        Counted x = new Counted();
        Steps.letters(0, 400).on(x);
        Steps.letters(1, 111).on(x);
        Check.due("calls left", x.callsLeft(), 1);
        return x;
    }

    private static void theLastCallIsAnsweredStill() {
        Check.due("insert(1, 111, 255) as call 512", beforeTheLast().insert(1, 111, 255), 111);
        Check.due("remove(1, 110) as call 512", beforeTheLast().remove(1, 110), 111);
        Check.fine("bring(0, 0, 2) as call 512", () -> beforeTheLast().bring(0, 0, 2));
        Check.due("merge(0, 2) as call 512", beforeTheLast().merge(0, 2), 400);
        Check.due("merge(0, 1) as call 512", beforeTheLast().merge(0, 1), 400);
        Check.due("merge(1, 0) as call 512", beforeTheLast().merge(1, 0), 111);
        Check.due("length(0) as call 512", beforeTheLast().length(0), 400);
        Check.due("letter(0, 399) as call 512", beforeTheLast().letter(0, 399), 'a' + 399 % 26);
        Check.due("letter(0, 400) as call 512", beforeTheLast().letter(0, 400), -1);
        Check.due("name(0, 399) as call 512", beforeTheLast().name(0, 399), 4 * 400);
        Check.due("name(1, 110) as call 512", beforeTheLast().name(1, 110), 4 * 111 + 1);
        Check.due("has(0, 0) as call 512", beforeTheLast().has(0, 0), 400);
        Check.due("has(1, 1) as call 512", beforeTheLast().has(1, 1), 111);
    }

    private static void theLastCallMayBeBadOrRefused() {
        Check.bad("insert(1, 112, 97) as call 512", () -> beforeTheLast().insert(1, 112, 97));
        Check.refused("insert(0, 400, 97) as call 512", () -> beforeTheLast().insert(0, 400, 97));
        Check.bad("remove(1, 111) as call 512", () -> beforeTheLast().remove(1, 111));
        Check.refused("remove(0, 399) as call 512", () -> beforeTheLast().remove(0, 399));
        Check.bad("bring(1, 111, 2) as call 512", () -> beforeTheLast().bring(1, 111, 2));
        Check.refused("bring(1, 110, 2) as call 512", () -> beforeTheLast().bring(1, 110, 2));
    }

    private static void theGreatestMerge() {
        Counted x = new Counted();
        Steps.letters(0, 400).on(x);
        Steps.letters(1, 110).on(x);
        Check.due("merge(1, 0) as call 511", x.merge(1, 0), 110);
        Check.due("merge(0, 3) as call 512", x.merge(0, 3), 510);
    }

    private static void laterCallsThrowNothingOfTheirOwn() {
        LetterWeave x = new LetterWeave();
        for (int call = 0; call < LIFE; call++) {
            x.insert(call % 4, 0, 97);
        }
        int[] numbers = {-1, 0, 1, 3, 4, 127, 128, 400, Integer.MIN_VALUE, Integer.MAX_VALUE};
        for (int round = 0; round < 2; round++) {
            for (int a : numbers) {
                for (int b : numbers) {
                    allCalls(x, a, b);
                }
            }
        }
        for (int call = 0; call < 4 * LIFE; call++) {
            int c = call % 4;
            calm("insert", () -> x.insert(c, 0, 97));
            calm("remove", () -> x.remove(c, 0));
        }
    }

    private static void allCalls(LetterWeave x, int a, int b) {
        calm("insert", () -> x.insert(a, b, 97));
        calm("remove", () -> x.remove(a, b));
        calm("bring", () -> x.bring(a, b, 1));
        calm("bring", () -> x.bring(0, a, b));
        calm("merge", () -> x.merge(a, b));
        calm("length", () -> x.length(a));
        calm("letter", () -> x.letter(a, b));
        calm("name", () -> x.name(a, b));
        calm("has", () -> x.has(a, b));
    }

    /** What it answers is free, but no exception beside the document's two may reach the caller. */
    private static void calm(String call, Check.Call run) {
        String outcome = Check.outcome(run);
        boolean known = outcome.equals("nothing") || outcome.equals("IllegalArgumentException")
                || outcome.equals("IllegalStateException");
        if (!known) {
            Check.fault(call + " behind call 512 throws " + outcome);
        }
    }
}
