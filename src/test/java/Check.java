/** What the tests share: each wrong answer is printed, and a test that had one ends with exit code 1. */
final class Check {
    private static int wrong = 0;

    private Check() {
    }

    interface Call {
        void run();
    }

    static void due(String call, long got, long want) {
        if (got != want) {
            fault(call + " answered " + got + ", due is " + want);
        }
    }

    static void due(String call, String got, String want) {
        if (!got.equals(want)) {
            fault(call + " answered " + got + ", due is " + want);
        }
    }

    static void bad(String call, Call run) {
        due(call, outcome(run), "IllegalArgumentException");
    }

    static void refused(String call, Call run) {
        due(call, outcome(run), "IllegalStateException");
    }

    static void fine(String call, Call run) {
        due(call, outcome(run), "nothing");
    }

    static String outcome(Call run) {
        try {
            run.run();
            return "nothing";
        } catch (RuntimeException e) {
            return e.getClass().getSimpleName();
        }
    }

    static void fault(String text) {
        wrong++;
        System.out.println(text);
    }

    static void end() {
        System.out.println(wrong == 0 ? "all answers are as due" : wrong + " answers are not as due");
        if (wrong != 0) {
            System.exit(1);
        }
    }

    /** Puts each character of a text behind the end of a COPY's TEXT. */
    static void write(LetterWeave x, int c, String text) {
        for (char letter : text.toCharArray()) {
            x.insert(c, x.length(c), letter);
        }
    }

    static String text(LetterWeave x, int c) {
        StringBuilder text = new StringBuilder();
        for (int at = 0; at < x.length(c); at++) {
            text.append((char) x.letter(c, at));
        }
        return text.toString();
    }

    /** All that the face tells of an object, to see that a refused call changed nothing. */
    static String state(LetterWeave x) {
        StringBuilder state = new StringBuilder();
        for (int c = 0; c < 4; c++) {
            state.append(c).append(':').append(x.length(c));
            for (int at = 0; x.letter(c, at) != -1; at++) {
                state.append(' ').append(x.letter(c, at)).append('/').append(x.name(c, at));
            }
            for (int of = 0; of < 4; of++) {
                state.append(" of").append(of).append('=').append(x.has(c, of));
            }
            state.append('\n');
        }
        return state.toString();
    }
}
