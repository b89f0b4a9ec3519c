/**
 * An object under test. It counts its calls: what is answered behind the 512th is free, so no test
 * may go by it.
 */
final class Counted {
    static final int LIFE = 512;

    private final LetterWeave x = new LetterWeave();
    private int calls = 0;

    int callsLeft() {
        return LIFE - calls;
    }

    int insert(int c, int at, int letter) {
        count();
        return x.insert(c, at, letter);
    }

    int remove(int c, int at) {
        count();
        return x.remove(c, at);
    }

    void bring(int from, int k, int to) {
        count();
        x.bring(from, k, to);
    }

    int merge(int from, int to) {
        count();
        return x.merge(from, to);
    }

    int length(int c) {
        count();
        return x.length(c);
    }

    int letter(int c, int at) {
        count();
        return x.letter(c, at);
    }

    int name(int c, int at) {
        count();
        return x.name(c, at);
    }

    int has(int c, int of) {
        count();
        return x.has(c, of);
    }

    private void count() {
        if (calls == LIFE) {
            throw new AssertionError("a test goes by an answer behind the 512th call");
        }
        calls++;
    }
}
