/**
 * A text that several write at once, each in a COPY: what's put in has a NAME, a place behind
 * another one, and comes to the same ORDER everywhere. Words in capitals are the document's terms.
 *
 * <p>All CHANGES lie in one log, in the order in which they were made, and a LETTER is known by the
 * index of the CHANGE that made it. A COPY that has a CHANGE has all that its maker had then, so
 * what a COPY has is told by four counts alone: how many of each maker's CHANGES.
 */
public final class LetterWeave {
    private static final int COPIES = 4;
    private static final int OWN_CHANGES = 400;
    // An object is used for 512 calls, and no call makes more than one CHANGE.
    private static final int ALL_CHANGES = 512;
    private static final int GREATEST_BYTE = 255;
    private static final int NONE = -1;

    // The log: a CHANGE's maker, its number among the maker's own, and the LETTER that it takes
    // away (NONE if it makes one). had[of][change] counts the CHANGES of a COPY that its maker had.
    private final int[] maker = new int[ALL_CHANGES];
    private final int[] number = new int[ALL_CHANGES];
    private final int[] taken = new int[ALL_CHANGES];
    private final int[][] had = new int[COPIES][ALL_CHANGES];
    private int changes = 0;

    // The LETTERS: byte, NAME (4 n and the maker, so that the greater NAME is the greater number),
    // and the COPIES whose TEXT shows it, as bits.
    private final int[] bytes = new int[ALL_CHANGES];
    private final int[] names = new int[ALL_CHANGES];
    private final int[] shownIn = new int[ALL_CHANGES];

    // The ORDER of the LETTERS of all COPIES together. A COPY that has a LETTER has the one before
    // it too, so its own ORDER is this one without the LETTERS that it lacks.
    private final int[] order = new int[ALL_CHANGES];
    private int letters = 0;

    // The COPIES: where their own CHANGES lie in the log, how many CHANGES of each they have, the
    // greatest n in them, and how long their TEXT is.
    private final int[][] own = new int[COPIES][OWN_CHANGES];
    private final int[][] known = new int[COPIES][COPIES];
    private final int[] greatest = new int[COPIES];
    private final int[] lengths = new int[COPIES];

    public LetterWeave() {
    }

    public int insert(int c, int at, int letter) throws IllegalArgumentException, IllegalStateException {
        checkCopy(c);
        checkUpTo(at, lengths[c]);
        checkUpTo(letter, GREATEST_BYTE);
        checkRoom(c);
        int behind = at == 0 ? NONE : placeOf(c, at - 1);
        int made = addChange(c, NONE);
        bytes[made] = letter;
        names[made] = COPIES * (greatest[c] + 1) + c;
        weave(made, behind);
        receive(c, made);
        return number[made];
    }

    public int remove(int c, int at) throws IllegalArgumentException, IllegalStateException {
        checkCopy(c);
        int place = placeOf(c, at);
        if (place == NONE) {
            throw new IllegalArgumentException("no such LETTER in the TEXT");
        }
        checkRoom(c);
        int made = addChange(c, order[place]);
        receive(c, made);
        return number[made];
    }

    public void bring(int from, int k, int to) throws IllegalArgumentException, IllegalStateException {
        checkCopy(from);
        checkCopy(to);
        if (from == to) {
            throw new IllegalArgumentException("a CHANGE comes to another COPY");
        }
        checkUpTo(k, known[from][from] - 1);
        int change = own[from][k];
        if (isIn(to, change)) {
            return;
        }
        if (!canCome(to, change)) {
            throw new IllegalStateException("the COPY lacks a CHANGE that the maker had");
        }
        receive(to, change);
    }

    public int merge(int from, int to) throws IllegalArgumentException {
        checkCopy(from);
        checkCopy(to);
        int fresh = 0;
        // In the log a CHANGE lies behind all that its maker had, so in the log's order all can come.
        for (int change = 0; change < changes; change++) {
            if (isIn(from, change) && !isIn(to, change)) {
                receive(to, change);
                fresh++;
            }
        }
        return fresh;
    }

    public int length(int c) throws IllegalArgumentException {
        checkCopy(c);
        return lengths[c];
    }

    public int letter(int c, int at) throws IllegalArgumentException {
        int place = placeToRead(c, at);
        return place == NONE ? -1 : bytes[order[place]];
    }

    public int name(int c, int at) throws IllegalArgumentException {
        int place = placeToRead(c, at);
        return place == NONE ? -1 : names[order[place]];
    }

    public int has(int c, int of) throws IllegalArgumentException {
        checkCopy(c);
        checkCopy(of);
        return known[c][of];
    }

    private static void checkCopy(int c) {
        checkUpTo(c, COPIES - 1);
    }

    private static void checkUpTo(int value, int last) {
        if (value < 0 || value > last) {
            throw new IllegalArgumentException("a number out of range");
        }
    }

    private void checkRoom(int c) {
        if (known[c][c] >= OWN_CHANGES || changes >= ALL_CHANGES) {
            throw new IllegalStateException("no more CHANGES");
        }
    }

    private int placeToRead(int c, int at) {
        checkCopy(c);
        checkUpTo(at, Integer.MAX_VALUE);
        return placeOf(c, at);
    }

    /** Where LETTER at of the COPY's TEXT lies in the ORDER, NONE if the TEXT has no such LETTER. */
    private int placeOf(int c, int at) {
        int before = 0;
        for (int place = 0; place < letters; place++) {
            if (isShown(c, order[place])) {
                if (before == at) {
                    return place;
                }
                before++;
            }
        }
        return NONE;
    }

    private boolean isShown(int c, int letter) {
        return (shownIn[letter] & (1 << c)) != 0;
    }

    private boolean isIn(int c, int change) {
        return number[change] < known[c][maker[change]];
    }

    private boolean canCome(int to, int change) {
        for (int of = 0; of < COPIES; of++) {
            if (known[to][of] < had[of][change]) {
                return false;
            }
        }
        return true;
    }

    private int addChange(int c, int takenLetter) {
        int change = changes;
        maker[change] = c;
        number[change] = known[c][c];
        taken[change] = takenLetter;
        for (int of = 0; of < COPIES; of++) {
            had[of][change] = known[c][of];
        }
        own[c][number[change]] = change;
        changes++;
        return change;
    }

    /** Puts a LETTER into the ORDER, behind the one that lies at a place (NONE: behind the START). */
    private void weave(int made, int behind) {
        int place = behind + 1;
        // What stands behind a LETTER has a greater NAME than it. So the greater NAMES from here on
        // are those that go first behind the same LETTER, with all that stands behind them; the
        // first smaller NAME is the next one there, or lies already outside.
        while (place < letters && names[order[place]] > names[made]) {
            place++;
        }
        System.arraycopy(order, place, order, place + 1, letters - place);
        order[place] = made;
        letters++;
    }

    private void receive(int c, int change) {
        known[c][maker[change]] = number[change] + 1;
        if (taken[change] == NONE) {
            showLetter(c, change);
        } else {
            hideLetter(c, taken[change]);
        }
    }

    private void showLetter(int c, int letter) {
        shownIn[letter] |= 1 << c;
        lengths[c]++;
        greatest[c] = Math.max(greatest[c], names[letter] / COPIES);
    }

    private void hideLetter(int c, int letter) {
        // Two COPIES may have taken the same LETTER away: the second time it is gone already.
        if (isShown(c, letter)) {
            shownIn[letter] &= ~(1 << c);
            lengths[c]--;
        }
    }
}
