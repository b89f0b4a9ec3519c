/** What the tests share: each wrong answer is printed, and a test that had one ends with exit code 1. */
final class Check {
    /** Numbers that are no COPY, from those next to the range to the ends of int. */
    static final int[] NO_COPIES = {-1, 4, 5, 256, Integer.MIN_VALUE, Integer.MAX_VALUE};

    private static String sentence = "";
    private static int wrong = 0;

    private Check() {
    }

    interface Call {
        void run();
    }

    /** The document's words that the answers from here on hold it to. */
    static void sentence(String words) {
        sentence = words;
    }

    static void due(String call, long got, long want) {
        if (got != want) {
            fault(call + " answered " + got + ", due is " + want);
        }
    }

    static void due(String call, String got, String want) {
        if (!got.equals(want)) {
            fault(call + " answered " + got + ", due is " + want);
        }
    }

    static void bad(String call, Call run) {
        due(call + " throws", outcome(run), "IllegalArgumentException");
    }

    static void refused(String call, Call run) {
        due(call + " throws", outcome(run), "IllegalStateException");
    }

    static void fine(String call, Call run) {
        due(call + " throws", outcome(run), "nothing");
    }

    static String outcome(Call run) {
        try {
            run.run();
            return "nothing";
        } catch (RuntimeException e) {
            return e.getClass().getSimpleName();
        }
    }

    static void fault(String text) {
        wrong++;
        System.out.println("'" + sentence + "': " + text);
    }

    static void end() {
        System.out.println(wrong == 0 ? "all answers are as due" : wrong + " answers are not as due");
        if (wrong != 0) {
            System.exit(1);
        }
    }

    /** Puts each character of a text behind the end of a COPY's TEXT. */
    static void write(Counted x, int c, String text) {
        int at = x.length(c);
        for (char letter : text.toCharArray()) {
            x.insert(c, at, letter);
            at++;
        }
    }

    static String text(Counted x, int c) {
        StringBuilder text = new StringBuilder();
        int length = x.length(c);
        for (int at = 0; at < length; at++) {
            text.append((char) x.letter(c, at));
        }
        return text.toString();
    }

    static void textDue(Counted x, int c, String want) {
        due("TEXT of COPY " + c, text(x, c), want);
    }

    /** The n of the LETTER that a COPY makes next. */
    static int nextN(Counted x, int c) {
        x.insert(c, 0, '!');
        return x.name(c, 0) / 4;
    }
}
